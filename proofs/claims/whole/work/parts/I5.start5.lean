/-! THE LAW: what its start gives: the list of the commands -/
section STF
theorem st_All {b : Nat} {s : State} {eA : Nat → Nat} (hts : ∀ w ∈ lw_tbl, w.before #[Value.ref b] s = true) (h : (Jvm.Cond.and given_1 narrow_1).before #[Value.ref b] s = true) (hev : ∀ i, i < 7 → (Term.static "ClickBench$Command" (cmN.getD i "") "LClickBench$Command;").eval #[Value.ref b] s none [] s = some (.ref (eA i))) : ∃ t5 : Nat, va_Z "ClickBench$Command" "ALL" "[LClickBench$Command;" (.ref t5) (aN s.heap.size) s s.heap ∧ va_T (.object "ClickBench$Command") t5 7 (fun j => .ref (eA j)) (aN s.heap.size) s s.heap := by
  have hs := flat_of_before _ h
  have hA : ∀ a : Nat, a < s.heap.size → ¬ aN s.heap.size a := fun a h h2 => Nat.not_le.mpr h h2
  obtain ⟨t, h1, h2⟩ := va_Tof (A := aN s.heap.size) (tm := .static "ClickBench$Command" "ALL" "[LClickBench$Command;") (ty := .object "ClickBench$Command") (N := 7) (f := fun j => .ref (eA j)) (by decide) (hs _ (by decide +kernel)) (va_eqv (u := .int 7) (hs _ (by decide +kernel)) rfl) (fun j hj => by
    refine va_eqv (u := .static "ClickBench$Command" (cmN.getD j "") "LClickBench$Command;") ?_ (hev j hj)
    rcases (show j = 0 ∨ j = 1 ∨ j = 2 ∨ j = 3 ∨ j = 4 ∨ j = 5 ∨ j = 6 by omega) with rfl | rfl | rfl | rfl | rfl | rfl | rfl <;> exact hs _ (by decide +kernel)) hA
  exact ⟨t, va_Zof (hts _ (by decide +kernel)) (hts _ (by decide +kernel)) h1 hA, h2⟩
end STF
