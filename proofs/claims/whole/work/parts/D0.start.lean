/-! PURE: the states of both at the start -/
section START
theorem bI3_at : ∀ k, k < 7 → bI3 (k * 1 + 0) = ([340, 1, 0, 0, 10, 0, 20] : List Int32).getD k 0 := by decide +kernel
theorem mI0_at : ∀ k, k < 14 → mI0.2.2 0 k = ([10, 8, 0, 0, 0, 0, 1, 340, 1, 0, 0, 10, 0, 20] : List Int32).getD k 0 := by decide +kernel
theorem bI0_1 : ∀ k, k < 8 → bI0.1 k = ([10, 8, 0, 1, 0, 0, 0, 7] : List Int32).getD k 0 := fun k _ => rfl
theorem SR0 : SR bI0 sI0 uI0 ((0 : Int32), (fun _ => (0 : Int32))) 0 mI0 := by
  refine ⟨⟨10, 8, 0, 0, 0, ⟨?_, ?_⟩, Or.inl rfl⟩, ⟨0, 0, by omega, by omega, rfl, rfl, rfl, fun e he => absurd he (Nat.not_lt_zero e)⟩, ⟨0, by omega, rfl, rfl, fun q hq => absurd hq (Nat.not_lt_zero q)⟩, rfl⟩
  · refine ⟨mI0_at 0 (by omega), mI0_at 1 (by omega), mI0_at 2 (by omega), mI0_at 3 (by omega), mI0_at 4 (by omega), ⟨by omega, by omega⟩, ⟨by omega, by omega⟩, ⟨by omega, by omega, by omega⟩, fun i hi => absurd hi (Nat.not_lt_zero i), fun i hi => absurd hi (Nat.not_lt_zero i), fun i hi => absurd hi (Nat.not_lt_zero i), ?_⟩
    unfold okSet rg
    rw [mI0_at 6 (by omega), mI0_at 7 (by omega), mI0_at 8 (by omega), mI0_at 9 (by omega), mI0_at 10 (by omega), mI0_at 11 (by omega), mI0_at 12 (by omega), mI0_at 13 (by omega)]
    decide +kernel
  · refine ⟨?_, ?_, ?_, ?_, ?_, ?_, ?_, rfl, fun i hi => absurd hi (Nat.not_lt_zero i), fun i hi => absurd hi (Nat.not_lt_zero i), fun i hi => absurd hi (Nat.not_lt_zero i), fun k hk => ?_⟩
    · rw [mI0_at 0 (by omega)]; rfl
    · rw [mI0_at 1 (by omega)]; rfl
    · rw [mI0_at 5 (by omega)]; rfl
    · rw [mI0_at 6 (by omega)]; rfl
    · rw [mI0_at 2 (by omega)]; rfl
    · rw [mI0_at 3 (by omega)]; rfl
    · rw [mI0_at 4 (by omega)]; rfl
    · show bI3 (k * 1 + 0) = _
      rw [bI3_at k hk, mI0_at (7 + k) (by omega)]
      revert k
      decide +kernel
end START
