/-! THE LAW: what its start gives -/
section STA
theorem st_C {b : Nat} {s : State} (h : (Jvm.Cond.and given_1 narrow_1).before #[Value.ref b] s = true) : nC s := by
  have hs := flat_of_before _ h
  exact ⟨va_Nc.of (C := "java/lang/IndexOutOfBoundsException") (T := "java/lang/IllegalArgumentException") (hs _ (by decide +kernel)), va_Nc.of (C := "java/lang/IllegalStateException") (T := "java/lang/IllegalArgumentException") (hs _ (by decide +kernel)), va_Nc.of (C := "java/lang/IllegalArgumentException") (T := "java/lang/IllegalStateException") (hs _ (by decide +kernel)), va_Nc.of (C := "java/lang/IndexOutOfBoundsException") (T := "java/lang/IllegalStateException") (hs _ (by decide +kernel)), va_Nc.of (C := "java/lang/IllegalArgumentException") (T := "java/lang/IndexOutOfBoundsException") (hs _ (by decide +kernel)), va_Nc.of (C := "java/lang/IllegalStateException") (T := "java/lang/IndexOutOfBoundsException") (hs _ (by decide +kernel))⟩
theorem st_Nm : ∀ q ∈ nEST, Cond.methodLinkNest q.1 q.2.1 q.2.2.1 q.2.2.2 ∈ lw_tbl := by decide +kernel
theorem st_N {b : Nat} {s : State} (hts : ∀ w ∈ lw_tbl, w.before #[Value.ref b] s = true) : eN s := ⟨fun q hq => va_Nw.of rfl (hts _ (st_Nm q hq)), trivial⟩
theorem st_Fm : ∀ q ∈ nEF, Cond.fieldLinkNest q.1 q.2.1 q.2.2.1 q.2.2.2.1 q.2.2.2.2.1 q.2.2.2.2.2 ∈ lw_tbl := by decide +kernel
theorem st_Xm : ∀ w ∈ nXW, w ∈ lw_tbl := by decide +kernel
theorem st_Xo : nXW.all Cond.onTables = true := by decide +kernel
theorem st_X {b : Nat} {s : State} (hts : ∀ w ∈ lw_tbl, w.before #[Value.ref b] s = true) : ∀ w ∈ nXW, va_Nw w s := fun w hw => va_Nw.of (List.all_eq_true.mp st_Xo w hw) (hts w (st_Xm w hw))
end STA
