/-! THE LAW: what stands at its start -/
section STH
theorem gD_split {A : Nat → Prop} {as bs : List Nat} (h : gD A (as ++ bs)) : gD A as ∧ gD A bs ∧ ∀ a ∈ as, a ∉ bs := by
  refine ⟨⟨fun i j a hi hj => h.1 i j a (by rw [List.getElem?_append_left (List.getElem?_eq_some_iff.mp hi).1]; exact hi) (by rw [List.getElem?_append_left (List.getElem?_eq_some_iff.mp hj).1]; exact hj), fun a ha => h.2 a (List.mem_append_left _ ha)⟩, ⟨fun i j a hi hj => ?_, fun a ha => h.2 a (List.mem_append_right _ ha)⟩, fun a ha hb => ?_⟩
  · have := h.1 (as.length + i) (as.length + j) a (by rw [List.getElem?_append_right (by omega), show as.length + i - as.length = i by omega]; exact hi) (by rw [List.getElem?_append_right (by omega), show as.length + j - as.length = j by omega]; exact hj)
    omega
  · obtain ⟨i, hi⟩ := List.getElem?_of_mem ha
    obtain ⟨j, hj⟩ := List.getElem?_of_mem hb
    have hl := (List.getElem?_eq_some_iff.mp hi).1
    have := h.1 i (as.length + j) a (by rw [List.getElem?_append_left hl]; exact hi) (by rw [List.getElem?_append_right (by omega), show as.length + j - as.length = j by omega]; exact hj)
    omega
/-- the addresses at the start, in their order -/
def cpZ : (Nat → List Nat) → List Nat → List Nat
  | _, [] => []
  | f, i :: is => f i ++ cpZ f is
theorem cpZ_mem {f : Nat → List Nat} {a j : Nat} : ∀ (is : List Nat), j ∈ is → a ∈ f j → a ∈ cpZ f is := by
  intro is
  induction is with
  | nil => intro h _; exact absurd h List.not_mem_nil
  | cons i is ih =>
    intro h ha
    rcases List.mem_cons.mp h with e | h
    · rw [e] at ha; exact List.mem_append_left _ ha
    · exact List.mem_append_right _ (ih h ha)
theorem cpZ_apart {A : Nat → Prop} {f : Nat → List Nat} : ∀ (is : List Nat), gD A (cpZ f is) → (∀ i ∈ is, gD A (f i)) ∧ ∀ i ∈ is, ∀ j ∈ is, i ≠ j → ∀ a ∈ f i, a ∉ f j := by
  intro is
  induction is with
  | nil => intro _; exact ⟨fun i h => absurd h List.not_mem_nil, fun i h => absurd h List.not_mem_nil⟩
  | cons k is ih =>
    intro h
    obtain ⟨h1, h2, h3⟩ := gD_split (as := f k) (bs := cpZ f is) h
    obtain ⟨g1, g2⟩ := ih h2
    refine ⟨fun i hi => ?_, fun i hi j hj hne a ha hb => ?_⟩
    · rcases List.mem_cons.mp hi with e | hi
      · rw [e]; exact h1
      · exact g1 i hi
    · rcases List.mem_cons.mp hi with ei | hi <;> rcases List.mem_cons.mp hj with ej | hj
      · exact hne (ei.trans ej.symm)
      · rw [ei] at ha
        exact h3 a ha (cpZ_mem is hj hb)
      · rw [ej] at hb
        exact h3 a hb (cpZ_mem is hi ha)
      · exact g2 i hi j hj hne a ha hb
def cpS (qb qs qu qr qe qk qx qd : Nat → Nat) (aw9 : List Nat) : Nat → List Nat := fun k => match k with
  | 0 => bAd qb
  | 1 => sAd qs
  | 2 => uAd qu
  | 3 => aAd qr
  | 4 => eAd qe
  | 5 => kAd qk
  | 6 => aw9
  | 7 => xAd qx
  | 8 => dAd qd
  | _ => []
theorem cpT_S {qb qs qu qr qe qk qx qd : Nat → Nat} {aw9 : List Nat} (i : Nat) : (i < 7 ∧ cpT qb qs qu qr qe qk aw9 i = cpS qb qs qu qr qe qk qx qd aw9 i) ∨ cpT qb qs qu qr qe qk aw9 i = [] := by
  match i with
  | 0 => exact Or.inl ⟨by omega, rfl⟩
  | 1 => exact Or.inl ⟨by omega, rfl⟩
  | 2 => exact Or.inl ⟨by omega, rfl⟩
  | 3 => exact Or.inl ⟨by omega, rfl⟩
  | 4 => exact Or.inl ⟨by omega, rfl⟩
  | 5 => exact Or.inl ⟨by omega, rfl⟩
  | 6 => exact Or.inl ⟨by omega, rfl⟩
  | i + 7 => exact Or.inr rfl
theorem in9 {i : Nat} (h : i < 7) : i ∈ [5, 0, 3, 4, 1, 2, 7, 8, 6] := by
  have : i = 0 ∨ i = 1 ∨ i = 2 ∨ i = 3 ∨ i = 4 ∨ i = 5 ∨ i = 6 := by omega
  rcases this with e | e | e | e | e | e | e <;> subst e <;> decide
theorem gC_start {A : Nat → Prop} {qb qs qu qr qe qk qx qd : Nat → Nat} {aw9 : List Nat} (h : gD A (cpZ (cpS qb qs qu qr qe qk qx qd aw9) [5, 0, 3, 4, 1, 2, 7, 8, 6])) : gC A (cpT qb qs qu qr qe qk aw9) := by
  obtain ⟨g1, g2⟩ := cpZ_apart _ h
  refine ⟨fun i => ?_, fun i j hne a ha hb => ?_⟩
  · rcases cpT_S (qb := qb) (qs := qs) (qu := qu) (qr := qr) (qe := qe) (qk := qk) (qx := qx) (qd := qd) (aw9 := aw9) i with ⟨hi, e⟩ | e
    · rw [e]
      exact g1 i (in9 hi)
    · rw [e]
      exact ⟨fun i j a hi _ => (by cases hi), fun a h => absurd h List.not_mem_nil⟩
  · rcases cpT_S (qb := qb) (qs := qs) (qu := qu) (qr := qr) (qe := qe) (qk := qk) (qx := qx) (qd := qd) (aw9 := aw9) i with ⟨hi, e⟩ | e
    · rcases cpT_S (qb := qb) (qs := qs) (qu := qu) (qr := qr) (qe := qe) (qk := qk) (qx := qx) (qd := qd) (aw9 := aw9) j with ⟨hj, e2⟩ | e2
      · rw [e] at ha
        rw [e2] at hb
        exact g2 i (in9 hi) j (in9 hj) hne a ha hb
      · rw [e2] at hb
        exact absurd hb List.not_mem_nil
    · rw [e] at ha
      exact absurd ha List.not_mem_nil
/-- the new object and the law's arrays at the start -/
theorem bI3_at : ∀ k, k < 7 → bI3 (k * 1 + 0) = ([340, 1, 0, 0, 10, 0, 20] : List Int32).getD k 0 := by decide +kernel
abbrev g0L : List Int32 := [10, 8, 0, 0, 0, 0, 1, 340, 1, 0, 0, 10, 0, 20]
theorem DR0 {g m w : Nat → Int32} (hg : ∀ k, k < 14 → g k = g0L.getD k 0) : DR 10 8 0 0 0 bI0 g m w := by
  refine ⟨⟨?_, ?_⟩, fun i hi => absurd hi (Nat.not_lt_zero i)⟩
  · refine ⟨hg 0 (by omega), hg 1 (by omega), hg 2 (by omega), hg 3 (by omega), hg 4 (by omega), ⟨by omega, by omega⟩, ⟨by omega, by omega⟩, ⟨by omega, by omega, by omega⟩, fun i hi => absurd hi (Nat.not_lt_zero i), fun i hi => absurd hi (Nat.not_lt_zero i), fun i hi => absurd hi (Nat.not_lt_zero i), ?_⟩
    unfold okSet rg
    rw [hg 6 (by omega), hg 7 (by omega), hg 8 (by omega), hg 9 (by omega), hg 10 (by omega), hg 11 (by omega), hg 12 (by omega), hg 13 (by omega)]
    decide +kernel
  · refine ⟨?_, ?_, ?_, ?_, ?_, ?_, ?_, rfl, fun i hi => absurd hi (Nat.not_lt_zero i), fun i hi => absurd hi (Nat.not_lt_zero i), fun i hi => absurd hi (Nat.not_lt_zero i), fun k hk => ?_⟩
    · rw [hg 0 (by omega)]; rfl
    · rw [hg 1 (by omega)]; rfl
    · rw [hg 5 (by omega)]; rfl
    · rw [hg 6 (by omega)]; rfl
    · rw [hg 2 (by omega)]; rfl
    · rw [hg 3 (by omega)]; rfl
    · rw [hg 4 (by omega)]; rfl
    · show bI3 (k * 1 + 0) = _
      rw [bI3_at k hk, hg (7 + k) (by omega)]
      revert k
      decide +kernel
abbrev tZ : TS := ((0 : Int32), (fun _ => 0))
theorem Rel0 {g m w : Nat → Int32} (hg : ∀ k, k < 14 → g k = g0L.getD k 0) : RelT (bI0, sI0, uI0, tZ, tZ) g m w := ⟨10, 8, 0, 0, 0, DR0 hg, Or.inl rfl, ⟨0, 0, by omega, by omega, rfl, rfl⟩⟩
end STH
