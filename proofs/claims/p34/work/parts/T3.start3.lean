/-! THE LAW: what its start gives: texts of the exceptions, statics of the JDK -/
section STD
theorem st_R {own tx : String} {k : Nat} {args : Array Value} {s : State} (h1 : (Cond.stringRef own k tx).before args s = true) (h2 : (Cond.exactly (.string own k) "java/lang/String").before args s = true) : ∃ a : Nat, vk_R own k tx a s := by
  obtain ⟨a, -, -, -, he, -⟩ := Cond.exactly_spec h2
  exact ⟨a, vk_R.of h1 he⟩
theorem st_V {b : Nat} {s : State} (hts : ∀ w ∈ lw_tbl, w.before #[Value.ref b] s = true) (h : (Jvm.Cond.and given_1 narrow_1).before #[Value.ref b] s = true) : ∃ a6 a7 a8 : Nat, vk_R RX11 275 "there is nothing with this number" a6 s ∧ vk_R RX11 282 "an argument is out of range" a7 s ∧ vk_R RX11 287 "this can't be done now" a8 s := by
  have hs := flat_of_before _ h
  obtain ⟨a6, h6⟩ := st_R (own := RX11) (k := 275) (tx := "there is nothing with this number") (hts _ (by decide +kernel)) (hs _ (by decide +kernel))
  obtain ⟨a7, h7⟩ := st_R (own := RX11) (k := 282) (tx := "an argument is out of range") (hts _ (by decide +kernel)) (hs _ (by decide +kernel))
  obtain ⟨a8, h8⟩ := st_R (own := RX11) (k := 287) (tx := "this can't be done now") (hts _ (by decide +kernel)) (hs _ (by decide +kernel))
  exact ⟨a6, a7, a8, h6, h7, h8⟩
theorem st_J {b : Nat} {s : State} (hts : ∀ w ∈ lw_tbl, w.before #[Value.ref b] s = true) (h : (Jvm.Cond.and given_1 narrow_1).before #[Value.ref b] s = true) : vx_Zq Bundle.tN "UNASSIGNED_STACK" Bundle.steD (aN s.heap.size) s s.heap ∧ vx_Zq Bundle.tN "SUPPRESSED_SENTINEL" Bundle.listD (aN s.heap.size) s s.heap := by
  have hs := flat_of_before _ h
  have hA : ∀ a : Nat, a < s.heap.size → ¬ aN s.heap.size a := fun a h h2 => Nat.not_le.mpr h h2
  exact ⟨vx_Zqof (hts _ (by decide +kernel)) (hts _ (by decide +kernel)) (hs _ (by decide +kernel)) hA, vx_Zqof (hts _ (by decide +kernel)) (hts _ (by decide +kernel)) (hs _ (by decide +kernel)) hA⟩
theorem st_F {b : Nat} {s : State} (hts : ∀ w ∈ lw_tbl, w.before #[Value.ref b] s = true) (h : (Jvm.Cond.and given_1 narrow_1).before #[Value.ref b] s = true) : ∃ sT eA : Nat → Nat, eF s.heap.size sT eA s s.heap := by
  obtain ⟨t0, h0⟩ := st_T0 hts h
  obtain ⟨t1, h1⟩ := st_T1 hts h
  obtain ⟨t2, h2⟩ := st_T2 hts h
  obtain ⟨t3, h3⟩ := st_T3 hts h
  obtain ⟨a6, a7, a8, h6, h7, h8⟩ := st_V hts h
  obtain ⟨hj3, hj4⟩ := st_J hts h
  exact ⟨fun k => ([t0, t1, t2, t3, 0, 0, a6, a7, a8] : List Nat).getD k 0, fun _ => 0, st_N hts, ⟨fun q hq => va_Nw.of rfl (hts _ (st_Fm q hq)), h6, h7, h8, st_X hts⟩, h0, h1, h2, h3, trivial, trivial, trivial, trivial, hj3, hj4⟩
end STD
