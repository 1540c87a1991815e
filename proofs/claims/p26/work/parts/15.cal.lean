/-! calls: the words of each, and the run of a callee with a contract -/
section
def aIsW (w : Jvm.Cond) (i : Nat) : Bool := decide (aTb[i]? = some w) && goodWord w
def aIsN (w : Jvm.Cond) (i : Nat) : Bool := decide (lw_tbl[i]? = some w)
def aNoMH (c : String) : Bool := c != "java/lang/invoke/MethodHandle" && c != "java/lang/invoke/VarHandle"
def aHasCode (i : Nat) (x : MethodName) : Bool := match aTb[i]? with
  | some (.code x' _ _ _) => decide (x' = x)
  | _ => false
def aBeq (b c : ByteArray) : Bool := (b.data.toList.map UInt8.toNat) == (c.data.toList.map UInt8.toNat)
theorem aBeq_s {b c : ByteArray} (h : aBeq b c = true) : b = c := by
  unfold aBeq at h
  have h1 := beq_iff_eq.mp h
  have h2 : b.data.toList = c.data.toList := List.map_inj_right (fun x y hxy => UInt8.toNat_inj.mp hxy) |>.mp h1
  cases b; cases c
  exact congrArg ByteArray.mk (Array.toList_inj.mp h2)
def aIsC (y : MethodName) (F : aF) (mL i : Nat) : Bool := match aTb[i]? with
  | some (.code y' b m' r') => decide (y' = y) && (m' == mL) && decide (r' = F.2.2.1) && aBeq b F.2.1
  | _ => false
def aIsCW (y : MethodName) (F : aF) (mL i : Nat) : Bool := match aTb[i]? with
  | some (.codeWith y' b m' r' hh) => decide (y' = y) && (m' == mL) && decide (r' = F.2.2.1) && aBeq b F.2.1 && decide (hh = [(241, 267, 268, 202)])
  | _ => false
def aIsF (F G : aF) : Bool := (F.1 == G.1) && aBeq F.2.1 G.2.1 && decide (F.2.2 = G.2.2)
theorem aIsF_s {F G : aF} (h : aIsF F G = true) : F = G := by
  obtain ⟨a, b, c⟩ := F
  obtain ⟨a', b', c'⟩ := G
  unfold aIsF at h
  simp only [Bool.and_eq_true, beq_iff_eq, decide_eq_true_eq] at h
  obtain ⟨⟨rfl, h2⟩, rfl⟩ := h
  rw [aBeq_s h2]
def aCalB (e : aCE) : Bool := match e with
  | (o, x, k, y, F, mL, n, C, host, ps) => decide (aR F.1 = y.cls) && plainName y.cls && aNoMH y.cls && decide ((parseMethodDescriptor y.desc).map (fun d => d.parameters.length) = some n) && decide (mL ≤ 22) && decide (n + 1 ≤ mL ∨ (n ≤ mL ∧ (k = 0 ∨ k = 3 ∨ k = 8))) &&
    (F.2.2.2.2 == decide (y.name = "<init>")) && (F.2.2.2.1 != 1001 || aIsF F fX7_mend) && (match k, ps with
    | 0, [p0, p1, p2, p3] => aIsW (.methodLink (aR o) x y) p0 && aIsW (.static y) p1 && aIsW (.initialized y.cls) p2 && aIsC y F mL p3 && F.2.2.2.1 != 1000
    | 1, [p0, p1, p2, p3, p4] => aIsW (.methodLink (aR o) x y) p0 && aIsW (.instanceMethod y) p1 && aIsW (.selects C y y) p2 && aIsW (.initialized y.cls) p3 && aIsC y F mL p4 && F.2.2.2.1 != 1000
    | 2, [p0, p1, p2, p3] => aIsW (.methodLink (aR o) x y) p0 && aIsW (.instanceMethod y) p1 && aIsW (.initialized y.cls) p2 && aIsC y F mL p3 && F.2.2.2.1 != 1000 && decide (y.name = "<init>") && decide (F.2.2.1 = none)
    | 3, [p0, p1, p2, p3] => aIsN (.methodLinkNest (aR o) x y host) p0 && aIsW (.static y) p1 && aIsW (.initialized y.cls) p2 && aIsC y F mL p3 && F.2.2.2.1 != 1000
    | 4, [p0, p1, p2, p3, p4] => aIsN (.methodLinkNest (aR o) x y host) p0 && aIsW (.instanceMethod y) p1 && aIsW (.selects C y y) p2 && aIsW (.initialized y.cls) p3 && aIsC y F mL p4 && F.2.2.2.1 != 1000
    | 5, [p0, p1, p2, p3] => aIsN (.methodLinkNest (aR o) x y host) p0 && aIsW (.instanceMethod y) p1 && aIsW (.initialized y.cls) p2 && aIsC y F mL p3 && F.2.2.2.1 != 1000 && decide (y.name = "<init>") && decide (F.2.2.1 = none)
    | 6, [p0, p1, p2, p3, p4, p5] => aIsW (.methodLink (aR o) x y) p0 && aIsW (.sameMethod y.cls host y.name y.desc) p1 && aIsW (.selects C y y) p2 && aIsW (.instanceMethod y) p3 && aIsW (.initialized y.cls) p4 && aIsC y F mL p5 && F.2.2.2.1 != 1000 && decide (y.cls = host)
    | 10, [p0, p1, p2, p3, p4, p5, p6, p7] => aIsW (.methodLink (aR o) x ⟨host, y.name, y.desc⟩) p0 && aIsW (.sameMethod host host y.name y.desc) p1 && aIsW (.selects C ⟨host, y.name, y.desc⟩ y) p2 && aIsW (.instanceMethod y) p3 && aIsW (.initialized y.cls) p4 && aIsC y F mL p5 && F.2.2.2.1 != 1000 && aIsW (.instanceMethod ⟨host, y.name, y.desc⟩) p6 && aHasCode p7 ⟨host, y.name, y.desc⟩ && aNoMH host
    | 7, [p0, p1, p2, p3, p4, p5] => aIsW (.methodLink (aR o) x y) p0 && aIsW (.sameMethod y.cls y.cls y.name y.desc) p1 && aIsW (.superclass (aR o) y.cls) p2 && aIsW (.instanceMethod y) p3 && aIsW (.initialized y.cls) p4 && aIsC y F mL p5 && F.2.2.2.1 != 1000 && decide (y.name ≠ "<init>")
    | 8, [p0, p1, p2, p3] => aIsW (.methodLink (aR o) x y) p0 && aIsW (.static y) p1 && aIsW (.initialized y.cls) p2 && aIsCW y F mL p3 && aIsF F fL_act
    | _, _ => false)
theorem aCal0 : aCalT0.all aCalB = true := by decide +kernel
theorem aCal1 : aCalT1.all aCalB = true := by decide +kernel
theorem aCal2 : aCalT2.all aCalB = true := by decide +kernel
theorem aCal3 : aCalT3.all aCalB = true := by decide +kernel
theorem aCal4 : aCalT4.all aCalB = true := by decide +kernel
theorem aCal5 : aCalT5.all aCalB = true := by decide +kernel
theorem aCal6 : aCalT6.all aCalB = true := by decide +kernel
theorem aCalOk : aCalT.all aCalB = true := by
  unfold aCalT
  simp only [List.all_append, aCal0, aCal1, aCal2, aCal3, aCal4, aCal5, aCal6, Bool.and_self]
theorem aCal_s {o x : Nat} {e : aCE} (h : aCal o x = some e) : e.1 = o ∧ e.2.1 = x ∧ aCalB e = true := by
  unfold aCal at h
  have hp := List.find?_some h
  simp only [Bool.and_eq_true, beq_iff_eq] at hp
  exact ⟨hp.1, hp.2, List.all_eq_true.mp aCalOk e (List.mem_of_find?_eq_some h)⟩
theorem aIsW_s {w : Jvm.Cond} {i : Nat} (h : aIsW w i = true) : w ∈ aT := by
  unfold aIsW at h
  simp only [Bool.and_eq_true, decide_eq_true_eq] at h
  exact aT_of h.1 h.2
theorem aIsN_s {w : Jvm.Cond} {i : Nat} (h : aIsN w i = true) : w ∈ lw_tbl := by
  unfold aIsN at h
  exact List.mem_of_getElem? (of_decide_eq_true h)
theorem aNoMH_s {c : String} (h : aNoMH c = true) : c ≠ "java/lang/invoke/MethodHandle" ∧ c ≠ "java/lang/invoke/VarHandle" := by
  unfold aNoMH at h
  simpa using h
theorem aT_good {w : Jvm.Cond} (h : w ∈ aT) : w ∈ aT ∧ ((w.onTables && w.keeps) = true ∨ ∃ ty, w = .arrayClass ty) := ⟨h, good_of_word (List.mem_filter.mp h).2⟩
theorem aGoodIn {w : Jvm.Cond} (h : w ∈ aT) : GoodIn aT (w :: aT) := fun w' hw' => by
  rcases List.mem_cons.mp hw' with rfl | h'
  · exact aT_good h
  · exact aT_good h'
end
