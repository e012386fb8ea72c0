/-! THE LAW: what its start gives: the enum -/
section STE
theorem st_El : ∀ i, i < 7 → Cond.laysStatic "ClickBench$Command" (cmN.getD i "") "LClickBench$Command;" ∈ lw_tbl := by decide +kernel
theorem st_E {b : Nat} {s : State} (hts : ∀ w ∈ lw_tbl, w.before #[Value.ref b] s = true) (h : (Jvm.Cond.and given_1 narrow_1).before #[Value.ref b] s = true) : ∃ eA : Nat → Nat, va_En "ClickBench$Command" "LClickBench$Command;" cmN cmF eA (aN s.heap.size) s s.heap ∧ ∀ i, i < 7 → (Term.static "ClickBench$Command" (cmN.getD i "") "LClickBench$Command;").eval #[Value.ref b] s none [] s = some (.ref (eA i)) := by
  have hs := flat_of_before _ h
  refine va_Enof2 (nm := cmN) (F := cmF) (fun i hi => hts _ (st_El i hi)) (hts _ (by decide +kernel)) (fun i hi => ?_) (fun q hq i hi => ?_) (fun i j hi hj hne => ?_) (fun a h h2 => Nat.not_le.mpr h h2)
  · have hi : i < 7 := hi
    rcases (show i = 0 ∨ i = 1 ∨ i = 2 ∨ i = 3 ∨ i = 4 ∨ i = 5 ∨ i = 6 by omega) with rfl | rfl | rfl | rfl | rfl | rfl | rfl <;> exact hs _ (by decide +kernel)
  · have hi : i < 7 := hi
    rcases List.mem_cons.mp hq with rfl | hq
    · rcases (show i = 0 ∨ i = 1 ∨ i = 2 ∨ i = 3 ∨ i = 4 ∨ i = 5 ∨ i = 6 by omega) with rfl | rfl | rfl | rfl | rfl | rfl | rfl <;> exact hs _ (by decide +kernel)
    · have e := List.mem_singleton.mp hq
      subst e
      rcases (show i = 0 ∨ i = 1 ∨ i = 2 ∨ i = 3 ∨ i = 4 ∨ i = 5 ∨ i = 6 by omega) with rfl | rfl | rfl | rfl | rfl | rfl | rfl <;> exact hs _ (by decide +kernel)
  · have hi : i < 7 := hi
    have hj : j < 7 := hj
    rcases (show i = 0 ∨ i = 1 ∨ i = 2 ∨ i = 3 ∨ i = 4 ∨ i = 5 ∨ i = 6 by omega) with rfl | rfl | rfl | rfl | rfl | rfl | rfl <;> rcases (show j = 0 ∨ j = 1 ∨ j = 2 ∨ j = 3 ∨ j = 4 ∨ j = 5 ∨ j = 6 by omega) with rfl | rfl | rfl | rfl | rfl | rfl | rfl <;> first | exact absurd rfl hne | exact Or.inl (hs _ (by decide +kernel)) | exact Or.inr (hs _ (by decide +kernel))
end STE
