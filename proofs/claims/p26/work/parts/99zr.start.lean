/-! from the entry to the end -/
section ZR
/-- from the entry, for every script of at most 260 ints, the law comes to its end with true -/
theorem whole_start {p : Program} {e : Env} {s : State} {m : MethodId} {below : List Frame} {meth : Method} {c : Code} (l : Launch) (hflags : l.flags = flags0) {b L : Nat} {xs : Nat → Int32} (hL : L ≤ 260) (C0 : lw_At p s m meth c b L xs) : W p l e room_1 s m #[Value.ref b] below meth c s.heap [] 0 0 (lw_Z below #[Value.ref b] s) (entryFrame m ([Value.ref b] : List Value).toArray 36) := by
  have C1 := C0
  obtain ⟨-, -, -, -, -, hts, hX, hbl, -, hgv⟩ := C1
  have hg : ∀ w ∈ wG, w.before #[Value.ref b] s = true := fun w hw => flat_of_before _ hgv w hw
  obtain ⟨D, hK⟩ := wK_ (wTs hts)
  exact wBr l hflags C0 hK (wLaw hK hg hts hL hX hbl)
end ZR
