/-! THE LAW: what its start gives, put together -/
section STH
def sTw (t : List Nat) (adK adV : Nat → Nat) : Nat → Nat := fun k => if k < 10 then t.getD k 0 else if k < 20 then adK (k - 10) else adV (k - 20)
theorem sTw_K {t : List Nat} {adK adV : Nat → Nat} {i : Nat} (hi : i < 7) : sTw t adK adV (10 + i) = adK i := by
  unfold sTw
  rw [if_neg (by omega), if_pos (by omega), Nat.add_sub_cancel_left]
theorem sTw_V {t : List Nat} {adK adV : Nat → Nat} {i : Nat} : sTw t adK adV (20 + i) = adV i := by
  unfold sTw
  rw [if_neg (by omega), if_neg (by omega), Nat.add_sub_cancel_left]
theorem st_Ef {t : List Nat} {adK adV eA : Nat → Nat} {o n d : String} {A : Nat → Prop} {U : State} {H : Heap} (h : va_Ef 7 o n d (fun i => .ref (adK i)) eA A U H) : va_Ef 7 o n d (fun i => .ref (sTw t adK adV (10 + i))) eA A U H := by
  intro i hi
  have h1 : va_OF o n d (.ref (adK i)) (eA i) A U H := h i hi
  rw [← sTw_K (t := t) (adK := adK) (adV := adV) hi] at h1
  exact h1
theorem st_Sf {t : List Nat} {adK adV : Nat → Nat} {len : List Nat} {byt : List (List Int32)} {A : Nat → Prop} {U : State} {H : Heap} (h : vk_S 7 len byt adK adV A U H) : vk_S 7 len byt (fun i => sTw t adK adV (10 + i)) (fun i => sTw t adK adV (20 + i)) A U H := by
  refine ⟨fun i hi => ?_, fun i j hi hj e => ?_⟩
  · have h1 := h.1 i hi
    rw [← sTw_K (t := t) (adK := adK) (adV := adV) hi, ← sTw_V (t := t) (adK := adK) (adV := adV) (i := i)] at h1
    exact h1
  · have e : sTw t adK adV (10 + i) = sTw t adK adV (10 + j) := e
    rw [sTw_K hi, sTw_K hj] at e
    exact h.2 i j hi hj e
theorem st_F {b : Nat} {s : State} (hts : ∀ w ∈ lw_tbl, w.before #[Value.ref b] s = true) (h : (Jvm.Cond.and given_1 narrow_1).before #[Value.ref b] s = true) : ∃ sT eA : Nat → Nat, eF s.heap.size sT eA s s.heap := by
  obtain ⟨t0, h0⟩ := st_T0 hts h
  obtain ⟨t1, h1⟩ := st_T1 hts h
  obtain ⟨t2, h2⟩ := st_T2 hts h
  obtain ⟨t3, h3⟩ := st_T3 hts h
  obtain ⟨t4, h4⟩ := st_T4 hts h
  obtain ⟨eA, hE, hev⟩ := st_E hts h
  obtain ⟨t5, hA1, hA2⟩ := st_All hts h hev
  obtain ⟨adK, adV, hW, hWf⟩ := st_W h hev
  obtain ⟨a6, a7, a8, h6, h7, h8⟩ := st_V hts h
  obtain ⟨hj1, hj2, hj3, hj4⟩ := st_J hts h
  exact ⟨sTw [t0, t1, t2, t3, t4, t5, a6, a7, a8] adK adV, eA, st_N hts, ⟨fun q hq => va_Nw.of rfl (hts _ (st_Fm q hq)), h6, h7, h8, st_X hts⟩, h0, h1, h2, h3, h4, hE, ⟨hA1, hA2⟩, ⟨st_Ef hWf, st_Sf hW, hj1, hj2⟩, hj3, hj4⟩
/-- a list of addresses in parts -/
theorem gD_split {A : Nat → Prop} {as bs : List Nat} (h : gD A (as ++ bs)) : gD A as ∧ gD A bs ∧ ∀ a ∈ as, a ∉ bs := by
  refine ⟨⟨fun i j a hi hj => h.1 i j a (by rw [List.getElem?_append_left (List.getElem?_eq_some_iff.mp hi).1]; exact hi) (by rw [List.getElem?_append_left (List.getElem?_eq_some_iff.mp hj).1]; exact hj), fun a ha => h.2 a (List.mem_append_left _ ha)⟩, ⟨fun i j a hi hj => ?_, fun a ha => h.2 a (List.mem_append_right _ ha)⟩, fun a ha hb => ?_⟩
  · have := h.1 (as.length + i) (as.length + j) a (by rw [List.getElem?_append_right (by omega), show as.length + i - as.length = i by omega]; exact hi) (by rw [List.getElem?_append_right (by omega), show as.length + j - as.length = j by omega]; exact hj)
    omega
  · obtain ⟨i, hi⟩ := List.getElem?_of_mem ha
    obtain ⟨j, hj⟩ := List.getElem?_of_mem hb
    have hl := (List.getElem?_eq_some_iff.mp hi).1
    have := h.1 i (as.length + j) a (by rw [List.getElem?_append_left hl]; exact hi) (by rw [List.getElem?_append_right (by omega), show as.length + j - as.length = j by omega]; exact hj)
    omega
theorem cpL_mem {f : Nat → List Nat} {a j : Nat} : ∀ (is : List Nat), j ∈ is → a ∈ f j → a ∈ cpL f is := by
  intro is
  induction is with
  | nil => intro h _; exact absurd h List.not_mem_nil
  | cons i is ih =>
    intro h ha
    rcases List.mem_cons.mp h with e | h
    · rw [e] at ha; exact List.mem_append_left _ ha
    · exact List.mem_append_right _ (ih h ha)
theorem cpL_apart {A : Nat → Prop} {f : Nat → List Nat} : ∀ (is : List Nat), gD A (cpL f is) → (∀ i ∈ is, gD A (f i)) ∧ ∀ i ∈ is, ∀ j ∈ is, i ≠ j → ∀ a ∈ f i, a ∉ f j := by
  intro is
  induction is with
  | nil => intro _; exact ⟨fun i h => absurd h List.not_mem_nil, fun i h => absurd h List.not_mem_nil⟩
  | cons k is ih =>
    intro h
    obtain ⟨h1, h2, h3⟩ := gD_split (as := f k) (bs := cpL f is) h
    obtain ⟨g1, g2⟩ := ih h2
    refine ⟨fun i hi => ?_, fun i hi j hj hne a ha hb => ?_⟩
    · rcases List.mem_cons.mp hi with e | hi
      · rw [e]; exact h1
      · exact g1 i hi
    · rcases List.mem_cons.mp hi with ei | hi <;> rcases List.mem_cons.mp hj with ej | hj
      · exact hne (ei.trans ej.symm)
      · rw [ei] at ha
        exact h3 a ha (cpL_mem is hj hb)
      · rw [ej] at hb
        exact h3 a hb (cpL_mem is hi ha)
      · exact g2 i hi j hj hne a ha hb
theorem cp_out {qb qs qu qr qe qx qd qk qm : Nat → Nat} {ao i : Nat} (h : i ∉ [7, 0, 3, 4, 1, 2, 5, 6, 8, 9]) : cp qb qs qu qr qe qx qd qk qm ao i = [] := by
  match i, h with
  | 0, h => exact absurd (by decide) h
  | 1, h => exact absurd (by decide) h
  | 2, h => exact absurd (by decide) h
  | 3, h => exact absurd (by decide) h
  | 4, h => exact absurd (by decide) h
  | 5, h => exact absurd (by decide) h
  | 6, h => exact absurd (by decide) h
  | 7, h => exact absurd (by decide) h
  | 8, h => exact absurd (by decide) h
  | 9, h => exact absurd (by decide) h
  | _ + 10, _ => rfl
theorem gC_all {A : Nat → Prop} {qb qs qu qr qe qx qd qk qm : Nat → Nat} {ao : Nat} (h : gD A (cpL (cp qb qs qu qr qe qx qd qk qm ao) [7, 0, 3, 4, 1, 2, 5, 6, 8, 9])) : gC A (cp qb qs qu qr qe qx qd qk qm ao) := by
  obtain ⟨g1, g2⟩ := cpL_apart _ h
  refine ⟨fun i => ?_, fun i j hne a ha hb => ?_⟩
  · by_cases hi : i ∈ [7, 0, 3, 4, 1, 2, 5, 6, 8, 9]
    · exact g1 i hi
    · rw [cp_out hi]
      exact ⟨fun i j a hi _ => (by cases hi), fun a h => absurd h List.not_mem_nil⟩
  · by_cases hi : i ∈ [7, 0, 3, 4, 1, 2, 5, 6, 8, 9]
    · by_cases hj : j ∈ [7, 0, 3, 4, 1, 2, 5, 6, 8, 9]
      · exact g2 i hi j hj hne a ha hb
      · rw [cp_out hj] at hb
        exact absurd hb List.not_mem_nil
    · rw [cp_out hi] at ha
      exact absurd ha List.not_mem_nil
end STH
