/-! PURE: a click at all microphones -/
section CLICK
variable {C R M W N : Nat} {b b' b2 : BS} {g g' g2 m m' w a : Nat → Int32}
theorem rowC.cong {b9 b3 : BS} {m9 m3 : Nat → Int32} {off : Int32} {i : Nat} (h : rowC b b' m m' off i) (eb : ∀ c, c < 9 → b3.2 0 (i * 9 + c) = b'.2 0 (i * 9 + c)) (em : ∀ c, c < 10 → m3 (10 * i + c) = m' (10 * i + c)) (e0 : ∀ c, c < 4 → m9 (10 * i + c) = m (10 * i + c)) : rowC b9 b3 m9 m3 off i := by
  obtain ⟨h1, h2, h3⟩ := h
  refine ⟨fun c hc => ?_, fun c hc => ?_, ?_⟩
  · rw [em c (by omega), e0 c hc]
    exact h1 c hc
  · rw [eb (5 + c) (by omega), em (6 + c) (by omega)]
    exact h2 c hc
  · rw [em 4 (by omega), em 5 (by omega), eb 4 (by omega)]
    rcases h3 with h3 | ⟨h3, h4, h5, h6⟩
    · exact Or.inl h3
    · refine Or.inr ⟨h3, h4, h5, fun c hc => ?_⟩
      rw [em (6 + c) (by omega)]
      exact h6 c hc
/-- the bench and the law's arrays when a microphone has noted -/
theorem BR.noted (h : BR C R M W N b' g' m w) (e2 : b'.2 = b.2) {i : Nat} (y0 note Tm c0 c1 c2 c3 : Int32) : BR C R M W N (bst b' 0 (nI M, row5 (b.2 0) (i * 9) note c0 c1 c2 c3)) g' (row6 m (10 * i) y0 Tm c0 c1 c2 c3) w :=
  h.rows (fun j hj c hc => by rw [e2]; exact row5_ne (by omega)) (fun j hj c hc => row6_ne (by omega))
theorem click_L {x y time : Int32} (hx : rg x (-1000) 3000) (hy : rg y (-1000) 3000) (ht : rg time 0 100000) : ∀ (n k : Nat), k ≤ M → M - k < n → ∀ (t : TS) (a g m : Nat → Int32) (b : BS) (nz : Int32), BR C R M W N b g m w → (∀ i, i < M → rg (b.2 0 (i * 9 + 3)) (-500000) 500000) →
    ∃ (nz' : Int32) (t' : TS) (b' : BS) (g' m' : Nat → Int32), pX6_hearClick_L6 n x y time nz (nI k) t b = (nz', t', b') ∧ kX6_hearClick_L6 n x y time nz (nI k) t b ∧ pL_hears_L12 w n x y time nz (nI k) g m a = (nz', g', m') ∧ kL_hears_L12 w n x y time nz (nI k) g m a ∧ BR C R M W N b' g' m' w ∧
      (∀ i, k ≤ i → i < M → rowC b b' m m' (b.2 0 (i * 9 + 3)) i) ∧ (∀ i, i < k → (∀ c, c < 9 → b'.2 0 (i * 9 + c) = b.2 0 (i * 9 + c)) ∧ (∀ c, c < 10 → m' (10 * i + c) = m (10 * i + c))) ∧ (∀ i, i < M → ∀ c, c < 4 → b'.2 0 (i * 9 + c) = b.2 0 (i * 9 + c)) ∧ (∀ q, q ≠ 5 → q ≠ 6 → g' q = g q) ∧ g' 5 = g 5 + 1 := by
  intro n
  induction n with
  | zero => intro k h1 h2; omega
  | succ n ih =>
    intro k h1 h2 t a g m b nz h ho
    have hl := h.le
    show ∃ (nz' : Int32) (t' : TS) (b' : BS) (g' m' : Nat → Int32), bX6_hearClick_L6 (pX6_hearClick_L6 n) _ _ _ _ _ _ _ = _ ∧ kbX6_hearClick_L6 (kX6_hearClick_L6 n) _ _ _ _ _ _ _ ∧ bL_hears_L12 w (pL_hears_L12 w n) _ _ _ _ _ _ _ _ = _ ∧ kbL_hears_L12 w (kL_hears_L12 w n) _ _ _ _ _ _ _ _ ∧ _
    unfold bX6_hearClick_L6 kbX6_hearClick_L6 bL_hears_L12 kbL_hears_L12
    rw [h.b4, h.eM]
    by_cases e : k = M
    · subst e
      simp only [if_pos (nI_le (Nat.le_refl k) (show k < 2 ^ 31 by omega)), lt]
      rw [h.b2]
      exact ⟨nz, t, _, _, m, rfl, trivial, rfl, trivial, h.s5 _, fun i hi hi2 => by omega, fun i hi => ⟨fun c hc => rfl, fun c hc => rfl⟩, fun i hi c hc => rfl, fun q h5 h6 => upd_ne _ _ h5, upd_eq _ _ _⟩
    · have hk : k < M := by omega
      simp only [if_neg (nI_ge hk (show M < 2 ^ 31 by omega))]
      obtain ⟨t1, b1, g1, a1, has, note, Tm, c0, c1, c2, c3, p1, p2, p3, p4, p5, p6, p7, p8, p9, p10⟩ := mic_eq h hk hx hy ht t a (pL_hears_L12 w n) (kL_hears_L12 w n) nz
      have e2 := p6.e2
      obtain ⟨q1, q2⟩ := noted_is h hk (ho k hk) p7 p5
      have hB := p5.noted e2 (i := k) (bz has) note Tm c0 c1 c2 c3
      have hR : ∀ c, c < 4 → ∀ i, i < M → row5 (b.2 0) (k * 9) note c0 c1 c2 c3 (i * 9 + c) = b.2 0 (i * 9 + c) := fun c hc i hi => row5_ne (by omega)
      obtain ⟨nz', t', b', g', m', r1, r2, r3, r4, r5, r6, r7, r8, r9, r10⟩ := ih (k + 1) (by omega) (by omega) t1 a1 g1 _ _ (nz + bz has) hB (fun i hi => by
        show rg (row5 (b.2 0) (k * 9) note c0 c1 c2 c3 (i * 9 + 3)) _ _
        rw [hR 3 (by omega) i hi]
        exact ho i hi)
      have hrow : ∀ i, k ≤ i → i < M → rowC b b' m m' (b.2 0 (i * 9 + 3)) i := by
        intro i hi hi2
        by_cases ei : i = k
        · subst ei
          obtain ⟨s1, s2⟩ := r7 i (by omega)
          exact (rowC_of (f := b.2 0) (b9 := b) (b' := bst b1 0 (nI M, row5 (b.2 0) (i * 9) note c0 c1 c2 c3)) (m := m) p7 (fun c _ _ => rfl)).cong s1 s2 (fun c hc => rfl)
        · have r := r6 i (by omega) hi2
          rw [show (bst b1 0 (nI M, row5 (b.2 0) (k * 9) note c0 c1 c2 c3)).2 0 (i * 9 + 3) = b.2 0 (i * 9 + 3) from hR 3 (by omega) i hi2] at r
          exact r.cong (fun c hc => rfl) (fun c hc => rfl) (fun c hc => (row6_ne (by omega)).symm)
      have hold : ∀ i, i < k → (∀ c, c < 9 → b'.2 0 (i * 9 + c) = b.2 0 (i * 9 + c)) ∧ (∀ c, c < 10 → m' (10 * i + c) = m (10 * i + c)) := by
        intro i hi
        obtain ⟨s1, s2⟩ := r7 i (by omega)
        exact ⟨fun c hc => (s1 c hc).trans (row5_ne (by omega)), fun c hc => (s2 c hc).trans (row6_ne (by omega))⟩
      have hoff : ∀ i, i < M → ∀ c, c < 4 → b'.2 0 (i * 9 + c) = b.2 0 (i * 9 + c) := fun i hi c hc => (r8 i hi c hc).trans (hR c hc i hi)
      have hg : ∀ q, q ≠ 5 → q ≠ 6 → g' q = g q := fun q h5 h6 => (r9 q h5 h6).trans (p6.eg h6)
      have hg5 : g' 5 = g 5 + 1 := by rw [r10, p6.eg (by omega)]
      simp only [lt, p1, p3, q1]
      rw [p9]
      unfold pX6_hearClick_L51 kX6_hearClick_L51
      simp only [lt, nI_1]
      refine ⟨nz', t', b', g', m', ?_, ⟨p2, p4, q2, ?_⟩, r3, ⟨p8, p10 r4⟩, r5, hrow, hold, hoff, hg, hg5⟩
      · cases has with
        | true => simp only [if_true]; exact r1
        | false =>
          simp only [Bool.false_eq_true, if_false]
          rw [show nz + bz false = nz from Int32.add_zero _] at r1
          exact r1
      · cases has with
        | true => simp only [if_true]; exact r2
        | false =>
          simp only [Bool.false_eq_true, if_false]
          rw [show nz + bz false = nz from Int32.add_zero _] at r2
          exact r2
theorem click_eq (h : BR C R M W N b g m w) (ho : ∀ i, i < M → rg (b.2 0 (i * 9 + 3)) (-500000) 500000) {x y time : Int32} (hx : rg x (-1000) 3000) (hy : rg y (-1000) 3000) (ht : rg time 0 100000) (t : TS) :
    ∃ (nz' : Int32) (t' : TS) (b' : BS) (g' m' : Nat → Int32), pX6_hearClick t b x y time = (nz', t', b') ∧ kX6_hearClick t b x y time ∧ pL_hears g m w x y time = (nz', g', m') ∧ kL_hears g m w x y time ∧ BR C R M W N b' g' m' w ∧ (∀ i, i < M → rowC b b' m m' (b.2 0 (i * 9 + 3)) i) ∧ (∀ i, i < M → ∀ c, c < 4 → b'.2 0 (i * 9 + c) = b.2 0 (i * 9 + c)) ∧ (∀ q, q ≠ 5 → q ≠ 6 → g' q = g q) ∧ g' 5 = g 5 + 1 := by
  obtain ⟨nz', t', b', g', m', r1, r2, r3, r4, r5, r6, r7, r8, r9, r10⟩ := click_L (M := M) hx hy ht fu 0 (by omega) (by have := fu_ge; have := h.le; omega) t (fun _ => 0) g m b 0 h ho
  exact ⟨nz', t', b', g', m', r1, r2, r3, r4, r5, fun i hi => r6 i (by omega) hi, r8, r9, r10⟩
end CLICK
