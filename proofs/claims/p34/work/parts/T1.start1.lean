/-! THE LAW: what its start gives: classes and arrays -/
section STB
theorem st_u {s : State} {args : Array Value} (hts : ∀ w ∈ lw_tbl, w.before args s = true) : ∀ q ∈ vwCl, ∃ (cC : ClassId) (iS : Nat → Nat), u_Kn s q.1 q.2.1 q.2.2 cC iS := (List.forall_mem_cons.mpr ⟨u_known hts (fun w h => (gcX10 w h).1) (hts _ tw129.1), (List.forall_mem_cons.mpr ⟨u_known hts (fun w h => (gcX20 w h).1) (hts _ tw41.1), (List.forall_mem_cons.mpr ⟨u_known hts (fun w h => (gcX40 w h).1) (hts _ tw225.1), (List.forall_mem_cons.mpr ⟨u_known hts (fun w h => (gcX50 w h).1) (hts _ tw212.1), (List.forall_mem_cons.mpr ⟨u_known hts (fun w h => (gcX60 w h).1) (hts _ tw143.1), (List.forall_mem_cons.mpr ⟨u_known hts (fun w h => (gcX80 w h).1) (hts _ tw155.1), (List.forall_mem_cons.mpr ⟨u_known hts (fun w h => (gcX90 w h).1) (hts _ tw47.1), (List.forall_mem_cons.mpr ⟨u_known hts (fun w h => (gcX100 w h).1) (hts _ tw193.1), (List.forall_mem_cons.mpr ⟨u_known hts (fun w h => (gcX110 w h).1) (hts _ tw33.1), (fun _ h => absurd h List.not_mem_nil)⟩)⟩)⟩)⟩)⟩)⟩)⟩)⟩)⟩)
theorem st_a {s : State} {args : Array Value} {ty : FieldType} (h : (Cond.arrayClass ty).before args s = true) : ∃ cA : ClassId, ArrOfT s cA ty ∧ s.vm.findClass ("[" ++ ty.toString) = some cA := by
  obtain ⟨c, k, comp, h1, h2, h3⟩ := Cond.arrayClass_spec h
  exact ⟨c, fun n z => ⟨fun k h => (by cases h), k, h2, comp, h3⟩, h1⟩
theorem st_o {s : State} {args : Array Value} {C : String} (h : (Cond.arrayOver (.object C)).before args s = true) : ∃ cA : ClassId, ArrOfT s cA (.object C) ∧ va_RA s cA (.object C) := by
  obtain ⟨comp, c, k, f1, -, f3, f4, f5⟩ := Cond.arrayOver_spec h
  exact ⟨c, fun n z => ⟨fun k h => (by cases h), k, f3, comp, f4⟩, k, comp, f3, f4, f1, f5⟩
theorem st_o2 : Cond.arrayOver (.object "ClickBench$Bench") ∈ lw_tbl := by decide +kernel
theorem st_o3 : Cond.arrayOver (.object "ClickBench$Command") ∈ lw_tbl := by decide +kernel
theorem st_ai : Cond.arrayClass .int ∈ lw_tbl := by decide +kernel
theorem st_K {s : State} {args : Array Value} (hts : ∀ w ∈ lw_tbl, w.before args s = true) : ∃ (dC : Nat → ClassId) (dI : Nat → Nat → Nat) (cI cB cO cL : ClassId), va_K (dC, dI) vwCl (tYS cI cB cO cL) s := by
  obtain ⟨cI, i1, i2⟩ := st_a (hts _ st_ai)
  obtain ⟨cB, b1, b2⟩ := st_o (hts _ st_o2)
  obtain ⟨cO, o1, o2⟩ := st_o (hts _ st_o3)
  have hu := st_u hts
  have H : ∀ k : Nat, ∃ p : ClassId × (Nat → Nat), ∀ q : vw_C, vwCl[k]? = some q → u_Kn s q.1 q.2.1 q.2.2 p.1 p.2 := by
    intro k
    cases hq : vwCl[k]? with
    | none => exact ⟨(cI, fun _ => 0), fun q h => by cases h⟩
    | some r =>
      obtain ⟨cC, iS, h⟩ := hu r (List.mem_of_getElem? hq)
      exact ⟨(cC, iS), fun q e => by cases e; exact h⟩
  refine ⟨fun k => (Classical.choose (H k)).1, fun k => (Classical.choose (H k)).2, cI, cB, cO, cI, fun k q hq => Classical.choose_spec (H k) q hq, fun k q hq => ?_⟩
  rcases (show k = 0 ∨ k = 1 ∨ k = 2 ∨ 3 ≤ k by omega) with rfl | rfl | rfl | h4
  · cases hq; exact ⟨i1, i2⟩
  · cases hq; exact ⟨b1, b2⟩
  · cases hq; exact ⟨o1, o2⟩
  · have := (List.getElem?_eq_some_iff.mp hq).1
    have h5 : k < 3 := this
    omega
theorem st_AO {b : Nat} {s : State} (hts : ∀ w ∈ lw_tbl, w.before #[Value.ref b] s = true) : va_AO RX2 s ∧ va_AO RX3 s := ⟨va_AO.of (C := RX2) (hts _ st_o2), va_AO.of (C := RX3) (hts _ st_o3)⟩
end STB
