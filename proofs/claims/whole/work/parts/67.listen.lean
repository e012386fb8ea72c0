/-! PURE: what a microphone notes -/
section LISTEN
variable {C R M W N : Nat} {b b' : BS} {S S' : Nat → Int32} {m : MS}
def row5 (f : Nat → Int32) (a : Nat) (x0 x1 x2 x3 x4 : Int32) : Nat → Int32 := upd (upd (upd (upd (upd f (a + 4) x0) (a + 5) x1) (a + 6) x2) (a + 7) x3) (a + 8) x4
def row6 (f : Nat → Int32) (a : Nat) (y0 x0 x1 x2 x3 x4 : Int32) : Nat → Int32 := upd (upd (upd (upd (upd (upd f (a + 4) y0) (a + 5) x0) (a + 6) x1) (a + 7) x2) (a + 8) x3) (a + 9) x4
theorem row5_ne {f : Nat → Int32} {a q : Nat} {x0 x1 x2 x3 x4 : Int32} (h : q < a + 4 ∨ a + 9 ≤ q) : row5 f a x0 x1 x2 x3 x4 q = f q := by
  unfold row5
  rw [upd_ne _ _ (by omega), upd_ne _ _ (by omega), upd_ne _ _ (by omega), upd_ne _ _ (by omega), upd_ne _ _ (by omega)]
theorem row6_ne {f : Nat → Int32} {a q : Nat} {y0 x0 x1 x2 x3 x4 : Int32} (h : q < a + 4 ∨ a + 10 ≤ q) : row6 f a y0 x0 x1 x2 x3 x4 q = f q := by
  unfold row6
  rw [upd_ne _ _ (by omega), upd_ne _ _ (by omega), upd_ne _ _ (by omega), upd_ne _ _ (by omega), upd_ne _ _ (by omega), upd_ne _ _ (by omega)]
theorem row5_at {f : Nat → Int32} {a : Nat} {x0 x1 x2 x3 x4 : Int32} : row5 f a x0 x1 x2 x3 x4 (a + 4) = x0 ∧ row5 f a x0 x1 x2 x3 x4 (a + 5) = x1 ∧ row5 f a x0 x1 x2 x3 x4 (a + 6) = x2 ∧ row5 f a x0 x1 x2 x3 x4 (a + 7) = x3 ∧ row5 f a x0 x1 x2 x3 x4 (a + 8) = x4 := by
  unfold row5
  refine ⟨?_, ?_, ?_, ?_, upd_eq _ _ _⟩
  · rw [upd_ne _ _ (by omega), upd_ne _ _ (by omega), upd_ne _ _ (by omega), upd_ne _ _ (by omega), upd_eq]
  · rw [upd_ne _ _ (by omega), upd_ne _ _ (by omega), upd_ne _ _ (by omega), upd_eq]
  · rw [upd_ne _ _ (by omega), upd_ne _ _ (by omega), upd_eq]
  · rw [upd_ne _ _ (by omega), upd_eq]
theorem row6_at {f : Nat → Int32} {a : Nat} {y0 x0 x1 x2 x3 x4 : Int32} : row6 f a y0 x0 x1 x2 x3 x4 (a + 4) = y0 ∧ row6 f a y0 x0 x1 x2 x3 x4 (a + 5) = x0 ∧ row6 f a y0 x0 x1 x2 x3 x4 (a + 6) = x1 ∧ row6 f a y0 x0 x1 x2 x3 x4 (a + 7) = x2 ∧ row6 f a y0 x0 x1 x2 x3 x4 (a + 8) = x3 ∧ row6 f a y0 x0 x1 x2 x3 x4 (a + 9) = x4 := by
  unfold row6
  refine ⟨?_, ?_, ?_, ?_, ?_, upd_eq _ _ _⟩
  · rw [upd_ne _ _ (by omega), upd_ne _ _ (by omega), upd_ne _ _ (by omega), upd_ne _ _ (by omega), upd_ne _ _ (by omega), upd_eq]
  · rw [upd_ne _ _ (by omega), upd_ne _ _ (by omega), upd_ne _ _ (by omega), upd_ne _ _ (by omega), upd_eq]
  · rw [upd_ne _ _ (by omega), upd_ne _ _ (by omega), upd_ne _ _ (by omega), upd_eq]
  · rw [upd_ne _ _ (by omega), upd_ne _ _ (by omega), upd_eq]
  · rw [upd_ne _ _ (by omega), upd_eq]
/-- a change of one microphone's row in both -/
theorem BR.row (h : BR C R M W N b S) {i : Nat} (hi : i < M) (f : Nat → Int32) (eb : ∀ q, q < i * 9 ∨ i * 9 + 9 ≤ q → f q = b.2 0 q) (e : ∀ q, q < 14 + 10 * i ∨ 14 + 10 * i + 10 ≤ q → S' q = S q) (hm : okMic S' i) (hr : micR (bst b 0 (nI M, f)) S' i) : BR C R M W N (bst b 0 (nI M, f)) S' := by
  have hl := h.le
  have hs := h.set
  refine h.chg (fun k hk => e _ (by omega)) ?_ ?_ (fun q hq => e _ (by omega)) rfl rfl h.b4.symm rfl rfl rfl ?_ ?_ ?_ rfl rfl ?_
  · unfold okSet at hs ⊢
    rw [e 6 (by omega), e 7 (by omega), e 8 (by omega), e 9 (by omega), e 10 (by omega), e 11 (by omega), e 12 (by omega), e 13 (by omega)]
    exact hs
  · intro j hj
    by_cases ej : j = i
    · subst ej; exact hm
    · exact okMic_same (h.mic hj) (fun k hk => e _ (by omega))
  · rw [e 5 (by omega)]
    exact h.b2
  · rw [e 6 (by omega)]
    exact h.b3
  · intro j hj
    by_cases ej : j = i
    · subst ej; exact hr
    · exact micR_same (i := j) (h.mR hj) (fun k hk => eb _ (by omega)) (fun k hk => e _ (by omega))
  · intro k hk
    rw [e _ (by omega)]
    exact h.setR hk
theorem BR.noted (h : BR C R M W N b S) {i : Nat} (hi : i < M) {x k1 k2 k3 k4 : Int32} (hx : rg x (-800000) 800000) : BR C R M W N (bst b 0 (nI M, row5 (b.2 0) (i * 9) x k1 k2 k3 k4)) (row6 S (14 + 10 * i) 1 x k1 k2 k3 k4) := by
  obtain ⟨a4, a5, a6, a7, a8⟩ := row5_at (f := b.2 0) (a := i * 9) (x0 := x) (x1 := k1) (x2 := k2) (x3 := k3) (x4 := k4)
  obtain ⟨c4, c5, c6, c7, c8, c9⟩ := row6_at (f := S) (a := 14 + 10 * i) (y0 := 1) (x0 := x) (x1 := k1) (x2 := k2) (x3 := k3) (x4 := k4)
  refine h.row hi _ (fun q hq => row5_ne (by omega)) (fun q hq => row6_ne (by omega)) ?_ ⟨?_, ?_, ?_⟩
  · have hm := h.mic hi
    unfold okMic at hm ⊢
    rw [row6_ne (by omega), row6_ne (by omega), row6_ne (by omega), row6_ne (by omega), c4, c5]
    exact ⟨hm.1, hm.2.1, hm.2.2.1, hm.2.2.2.1, Or.inr rfl, hx⟩
  · intro k hk
    show row5 _ _ _ _ _ _ _ _ = _
    rw [row5_ne (by omega), row6_ne (by omega)]
    exact (h.mR hi).1 k hk
  · intro _
    refine ⟨a4.trans c5.symm, fun k hk => ?_⟩
    have hc : k = 0 ∨ k = 1 ∨ k = 2 ∨ k = 3 := by omega
    rcases hc with rfl | rfl | rfl | rfl
    · exact a5.trans c6.symm
    · exact a6.trans c7.symm
    · exact a7.trans c8.symm
    · exact a8.trans c9.symm
  · intro h4
    exact absurd c4 h4
theorem BR.unnoted (h : BR C R M W N b S) {i : Nat} (hi : i < M) {k1 k2 k3 k4 : Int32} : BR C R M W N (bst b 0 (nI M, row5 (b.2 0) (i * 9) (-1000000000) (-1000000000) (-1000000000) (-1000000000) (-1000000000))) (row6 S (14 + 10 * i) 0 0 k1 k2 k3 k4) := by
  obtain ⟨a4, a5, a6, a7, a8⟩ := row5_at (f := b.2 0) (a := i * 9) (x0 := -1000000000) (x1 := -1000000000) (x2 := -1000000000) (x3 := -1000000000) (x4 := -1000000000)
  obtain ⟨c4, c5, c6, c7, c8, c9⟩ := row6_at (f := S) (a := 14 + 10 * i) (y0 := 0) (x0 := 0) (x1 := k1) (x2 := k2) (x3 := k3) (x4 := k4)
  refine h.row hi _ (fun q hq => row5_ne (by omega)) (fun q hq => row6_ne (by omega)) ?_ ⟨?_, ?_, ?_⟩
  · have hm := h.mic hi
    unfold okMic at hm ⊢
    rw [row6_ne (by omega), row6_ne (by omega), row6_ne (by omega), row6_ne (by omega), c4, c5]
    exact ⟨hm.1, hm.2.1, hm.2.2.1, hm.2.2.2.1, Or.inl rfl, by decide, by decide⟩
  · intro k hk
    show row5 _ _ _ _ _ _ _ _ = _
    rw [row5_ne (by omega), row6_ne (by omega)]
    exact (h.mR hi).1 k hk
  · intro h4
    rw [c4] at h4
    exact absurd h4 (by decide)
  · intro _ k hk
    have hc : k = 0 ∨ k = 1 ∨ k = 2 ∨ k = 3 ∨ k = 4 := by omega
    rcases hc with rfl | rfl | rfl | rfl | rfl
    · exact a4
    · exact a5
    · exact a6
    · exact a7
    · exact a8
theorem msa_msa (m : MS) (k : Nat) (f g : Nat → Int32) : msa (msa m k f) k g = msa m k g := by
  unfold msa
  rw [updA_updA]
theorem put9 (h : BR C R M W N b S) {i k : Nat} {kk x : Int32} {f : Nat → Int32} (hk : kk = nI k) (hi : i < M) (h9 : k < 9) : pX9_put 8 9 72 (nI M, f) (nI i) kk x = (nI M, upd f (i * 9 + k) x) ∧ kX9_put 8 9 72 (nI M, f) (nI i) kk x := by
  have hl := h.le
  exact put_in (w := 9) rfl hk rfl hi h9 (by omega) (by omega) (by omega) (by omega)
theorem w34_eq (h : BR C R M W N b S) {i : Nat} (hi : i < M) {t : TS} {v x z0 z1 z2 z3 : Int32} (h0 : pX9_at 17 6 102 t v 0 = z0 ∧ kX9_at 17 6 102 t v 0) (h1 : pX9_at 17 6 102 t v 3 = z1 ∧ kX9_at 17 6 102 t v 3) (h2 : pX9_at 17 6 102 t v 4 = z2 ∧ kX9_at 17 6 102 t v 4) (h3 : pX9_at 17 6 102 t v 5 = z3 ∧ kX9_at 17 6 102 t v 5) : pX6_write_L34 (nI i) v (nI i) 4 x t b = (t, bst b 0 (nI M, row5 (b.2 0) (i * 9) x z0 z1 z2 z3)) ∧ kX6_write_L34 (nI i) v (nI i) 4 x t b := by
  have p := fun (k : Nat) (kk x : Int32) (f : Nat → Int32) (e : kk = nI k) (hk : k < 9) => put9 h (i := i) (k := k) (kk := kk) (x := x) (f := f) e hi hk
  unfold pX6_write_L34 kX6_write_L34
  simp only [lt, bst_t0, bst_bst, h0.1, h1.1, h2.1, h3.1, h.b4, (p 4 4 _ _ rfl (by omega)).1, (p 5 5 _ _ rfl (by omega)).1, (p 6 6 _ _ rfl (by omega)).1, (p 7 7 _ _ rfl (by omega)).1, (p 8 8 _ _ rfl (by omega)).1]
  exact ⟨rfl, (p 4 4 _ _ rfl (by omega)).2, h0.2, (p 5 5 _ _ rfl (by omega)).2, h1.2, (p 6 6 _ _ rfl (by omega)).2, h2.2, (p 7 7 _ _ rfl (by omega)).2, h3.2, (p 8 8 _ _ rfl (by omega)).2⟩
theorem n256_t {i p : Nat} (hi : i < 8) (hp : p < 17) (v : Int32) : pX12_notes_L256 (nI i) (nI p) v true m = msa m 0 (row6 (m.2.2 0) (14 + 10 * i) 1 (v - m.2.2 0 (14 + 10 * i + 3)) (m.2.2 4 p) (m.2.2 6 p) (m.2.2 7 p) (m.2.2 8 p)) ∧ kX12_notes_L256 (nI i) (nI p) v true m := by
  have P := fun (m : MS) (k : Nat) (kk x : Int32) (e : kk = nI k) (hk : k < 10) => puts_eq (m := m) (i := i) (k := k) (kk := kk) (x := x) e hi hk
  have O := fun (m : MS) => of_eq (m := m) (i := i) (k := 3) (kk := 3) rfl hi (by omega)
  have V : vp_in (nI p) 17 := vp_in_n hp (by omega)
  unfold pX12_notes_L256 kX12_notes_L256 pX12_notes_L272 kX12_notes_L272 pX12_notes_L298 kX12_notes_L298 pX12_notes_L322 kX12_notes_L322 pX12_notes_L346 kX12_notes_L346 pX12_notes_L370 kX12_notes_L370 pX12_notes_L394 kX12_notes_L394
  simp only [if_true, lt, nI_clamp (show p < 2 ^ 31 by omega), (P _ 4 4 _ rfl (by omega)).1, (P _ 5 5 _ rfl (by omega)).1, (P _ 6 6 _ rfl (by omega)).1, (P _ 7 7 _ rfl (by omega)).1, (P _ 8 8 _ rfl (by omega)).1, (P _ 9 9 _ rfl (by omega)).1, (O _).1, msa_msa, msa_3, updA_eq, updA_ne (j := 4) (k := 0) _ _ (by decide), updA_ne (j := 6) (k := 0) _ _ (by decide), updA_ne (j := 7) (k := 0) _ _ (by decide), updA_ne (j := 8) (k := 0) _ _ (by decide)]
  rw [upd_ne (j := 14 + 10 * i + 3) (k := 14 + 10 * i + 4) _ _ (by omega)]
  exact ⟨rfl, (P _ 4 4 _ rfl (by omega)).2, (O _).2, (P _ 5 5 _ rfl (by omega)).2, V, (P _ 6 6 _ rfl (by omega)).2, V, (P _ 7 7 _ rfl (by omega)).2, V, (P _ 8 8 _ rfl (by omega)).2, V, (P _ 9 9 _ rfl (by omega)).2⟩
theorem n256_f {i : Nat} (hi : i < 8) (p v : Int32) : pX12_notes_L256 (nI i) p v false m = msa m 0 (row6 (m.2.2 0) (14 + 10 * i) 0 0 0 0 0 0) ∧ kX12_notes_L256 (nI i) p v false m := by
  have P := fun (m : MS) (k : Nat) (kk x : Int32) (e : kk = nI k) (hk : k < 10) => puts_eq (m := m) (i := i) (k := k) (kk := kk) (x := x) e hi hk
  unfold pX12_notes_L256 kX12_notes_L256 pX12_notes_L272 kX12_notes_L272 pX12_notes_L298 kX12_notes_L298 pX12_notes_L322 kX12_notes_L322 pX12_notes_L346 kX12_notes_L346 pX12_notes_L370 kX12_notes_L370 pX12_notes_L394 kX12_notes_L394
  simp only [Bool.false_eq_true, if_false, lt, (P _ 4 4 _ rfl (by omega)).1, (P _ 5 5 _ rfl (by omega)).1, (P _ 6 6 _ rfl (by omega)).1, (P _ 7 7 _ rfl (by omega)).1, (P _ 8 8 _ rfl (by omega)).1, (P _ 9 9 _ rfl (by omega)).1, msa_msa, msa_3, updA_eq]
  exact ⟨rfl, (P _ 4 4 _ rfl (by omega)).2, (P _ 5 5 _ rfl (by omega)).2, (P _ 6 6 _ rfl (by omega)).2, (P _ 7 7 _ rfl (by omega)).2, (P _ 8 8 _ rfl (by omega)).2, (P _ 9 9 _ rfl (by omega)).2⟩
/-- a state in which only the drawn number has changed -/
def only6 (m m' : MS) : Prop := ∃ x, m' = msa m 0 (upd (m.2.2 0) 6 x)
theorem upd_self (f : Nat → Int32) (k : Nat) : upd f k (f k) = f := fa_upd_same rfl
theorem updA_self (f : Nat → Nat → Int32) (k : Nat) : updA f k (f k) = f := by
  funext j
  unfold updA
  by_cases e : j = k
  · rw [if_pos e, e]
  · rw [if_neg e]
theorem only6.rfl' (m : MS) : only6 m m := ⟨m.2.2 0 6, by rw [upd_self]; unfold msa; rw [updA_self]⟩
theorem only6.trans {m m' m'' : MS} (h : only6 m m') (g : only6 m' m'') : only6 m m'' := by
  obtain ⟨x, rfl⟩ := h
  obtain ⟨y, rfl⟩ := g
  refine ⟨y, ?_⟩
  rw [msa_msa, msa_3, updA_eq, upd_upd]
theorem only6.keeps {m m' : MS} (h : only6 m m') : keeps m m' := by
  obtain ⟨x, rfl⟩ := h
  exact ⟨rfl, rfl, rfl, rfl, rfl, rfl, rfl⟩
theorem only6.eS {m m' : MS} (h : only6 m m') {q : Nat} (hq : q ≠ 6) : m'.2.2 0 q = m.2.2 0 q := by
  obtain ⟨x, rfl⟩ := h
  exact upd_ne _ _ hq
theorem only6.RA {m m' : MS} (h : only6 m m') {v : Int32} {L : Nat} {t : TS} (g : RA v L t m) : RA v L t m' := by
  obtain ⟨x, rfl⟩ := h
  exact ⟨g.1, g.2.1, g.2.2.1, fun k hk => rowR_same (g.2.2.2 k hk) (fun c hc => rfl) rfl rfl rfl rfl rfl⟩
theorem only6.draw {m : MS} (h : BR C R M W N b (m.2.2 0)) {A : Nat} (hA : 1 ≤ A) (hA2 : A ≤ 1000) : ∃ (v : Nat) (b' : BS) (m' : MS), v < A ∧ pX2_draw b (nI A) = (nI v, b') ∧ pX12_drawn m (nI A) = (nI v, m') ∧ kX2_draw b (nI A) ∧ kX12_drawn m (nI A) ∧ BR C R M W N b' (m'.2.2 0) ∧ only6 m m' := by
  obtain ⟨v, s, v1, v2, v3, v4, v5, v6⟩ := draw_eq h hA hA2
  exact ⟨v, _, _, v1, v3, v4, v5, v6, h.s6 (by rw [nI_toInt v2]; omega), ⟨_, rfl⟩⟩
theorem jit_eq (h : BR C R M W N b (m.2.2 0)) : ∃ (J : Int32) (b' : BS) (m' : MS), rg J (-50) 50 ∧ pX6_drawJitter b = (J, b') ∧ kX6_drawJitter b ∧ (∀ q v3 v4 v5 v6 v7, pX12_notes_L48 q v3 v4 v5 v6 v7 false m = pX12_notes_L92 q v3 v4 v5 v6 v7 false J m') ∧ (∀ Q v3 v4 v5 v6 v7, kX12_notes_L92 Q v3 v4 v5 v6 v7 false J m' → kX12_notes_L48 Q v3 v4 v5 v6 v7 false m) ∧ BR C R M W N b' (m'.2.2 0) ∧ only6 m m' := by
  obtain ⟨s1, s2⟩ := setting_eq (i := 3) (ii := 3) h rfl (by omega)
  obtain ⟨j, hj, ej⟩ := nI_rg (n := 50) h.set.2.2.2.2.1
  have s1 : pX2_setting b 3 = nI j := s1.trans ej
  unfold pX6_drawJitter kX6_drawJitter pX12_notes_L48 kX12_notes_L48
  simp only [lt, s1, ej, Bool.false_eq_true, if_false]
  by_cases e0 : j = 0
  · subst e0
    simp only [if_pos (show nI 0 ≤ 0 from by decide)]
    exact ⟨0, b, m, ⟨by decide, by decide⟩, rfl, ⟨s2, trivial⟩, fun q v3 v4 v5 v6 v7 => rfl, fun Q v3 v4 v5 v6 v7 hq => hq, h, only6.rfl' m⟩
  · have hA : (2 * nI j + 1 : Int32) = nI (2 * j + 1) := by rw [show (2 : Int32) = nI 2 from rfl, pk_mul, nI_1]
    simp only [if_neg (nI_nle (n := j) (by omega) (by omega)), hA]
    obtain ⟨v, b', m', z1, z2, z3, z4, z5, z6, z7⟩ := only6.draw (A := 2 * j + 1) h (by omega) (by omega)
    rw [z2, z3]
    simp only [bd]
    have e10 : m'.2.2 0 10 = nI j := (z7.eS (by omega)).trans ej
    refine ⟨nI v - nI j, b', m', ?_, rfl, ⟨s2, z4⟩, fun q v3 v4 v5 v6 v7 => ?_, fun Q v3 v4 v5 v6 v7 hq => ⟨?_, ?_⟩, z6, z7⟩
    · unfold rg
      rw [Kit.i32_sub (by rw [nI_toInt (by omega), nI_toInt (by omega)]; omega) (by rw [nI_toInt (by omega), nI_toInt (by omega)]; omega), nI_toInt (by omega), nI_toInt (by omega)]
      omega
    · rw [e10]
    · exact z5
    · rw [e10]
      exact hq
theorem n147_no (q : Int32 → Int32 → Int32 → Int32 → Int32 → MS → MS) (v3 v4 v5 v6 v7 v10 : Int32) : pX12_notes_L147 q v3 v4 v5 v6 v7 v10 false m = q v3 v4 v5 v6 (v7 + 1) m := by
  unfold pX12_notes_L147 pX12_notes_L193 pX12_notes_L197 pX12_notes_L198 pX12_notes_L215 pX12_notes_L217 pX12_notes_L234 pX12_notes_L236
  simp only [Bool.false_eq_true, if_false, lt, ite_self]
theorem n193 (q : Int32 → Int32 → Int32 → Int32 → Int32 → MS → MS) (v3 v4 v5 v6 v7 v10 : Int32) : pX12_notes_L193 q v3 v4 v5 v6 v7 v10 true m = q v3 v4 v7 v10 (v7 + 1) m := by
  unfold pX12_notes_L193 pX12_notes_L198 pX12_notes_L217 pX12_notes_L236
  simp only [if_true, lt]
theorem n197 (q : Int32 → Int32 → Int32 → Int32 → Int32 → MS → MS) (v3 v4 v5 v6 v7 v10 : Int32) : pX12_notes_L197 q v3 v4 v5 v6 v7 v10 true m = q v3 v4 v5 v6 (v7 + 1) m := by
  unfold pX12_notes_L197 pX12_notes_L198 pX12_notes_L215 pX12_notes_L217 pX12_notes_L234 pX12_notes_L236
  simp only [if_true, Bool.false_eq_true, if_false, lt]
theorem kn193 (q : Int32 → Int32 → Int32 → Int32 → Int32 → MS → Prop) (v3 v4 v5 v6 v7 v10 : Int32) : kX12_notes_L193 q v3 v4 v5 v6 v7 v10 true m = q v3 v4 v7 v10 (v7 + 1) m := by
  unfold kX12_notes_L193 kX12_notes_L198 kX12_notes_L217 kX12_notes_L236
  simp only [if_true, lt]
theorem kn197 (q : Int32 → Int32 → Int32 → Int32 → Int32 → MS → Prop) (v3 v4 v5 v6 v7 v10 : Int32) : kX12_notes_L197 q v3 v4 v5 v6 v7 v10 true m = q v3 v4 v5 v6 (v7 + 1) m := by
  unfold kX12_notes_L197 kX12_notes_L198 kX12_notes_L215 kX12_notes_L217 kX12_notes_L234 kX12_notes_L236
  simp only [if_true, Bool.false_eq_true, if_false, lt]
theorem kn147_no (q : Int32 → Int32 → Int32 → Int32 → Int32 → MS → Prop) {v3 v4 v5 v6 v7 v10 : Int32} (h : q v3 v4 v5 v6 (v7 + 1) m) (h7 : vp_in v7 17) (h5 : v5 = -1000000000 ∨ vp_in v5 17) : kX12_notes_L147 q v3 v4 v5 v6 v7 v10 false m := by
  unfold kX12_notes_L147 kX12_notes_L193 kX12_notes_L197 kX12_notes_L198 kX12_notes_L215 kX12_notes_L217 kX12_notes_L234 kX12_notes_L236
  simp only [Bool.false_eq_true, if_false, lt, ite_self]
  by_cases e : v5 = -1000000000
  · rw [if_pos e]; exact h
  · rw [if_neg e]
    split
    · exact h
    · exact ⟨h7, h5.resolve_left e, h⟩
theorem at6 {L k c : Nat} {t : TS} {cc : Int32} (h : t.1 = nI L) (hL : L ≤ 17) (hk : k < L) (hc : cc = nI c) (h6 : c < 6) : pX9_at 17 6 102 t (nI k) cc = t.2 (k * 6 + c) ∧ kX9_at 17 6 102 t (nI k) cc := by
  obtain ⟨t1, t2⟩ := t
  have h : t1 = nI L := h
  subst h
  exact at_in (w := 6) rfl hc rfl hk h6 (by omega) (by omega) (by omega) (by omega)
def bestR (time : Int32) (k : Nat) (best Tc Tm clk : Int32) : Prop := best = -1000000000 ∨ ∃ p : Nat, p < k ∧ best = nI p ∧ rg Tc (time.toInt - 50) (time.toInt + 300050) ∧ Tm = Tc + clk ∧ Tm.toInt = Tc.toInt + clk.toInt
theorem step_eq (h : BR C R M W N b (m.2.2 0)) {L i k : Nat} {t : TS} (hA : RA (m.2.2 0 7) L t m) (hi : i < M) (hk : k < L) {time J best Tc Tm : Int32} (ht : rg time 0 100000) (hJ : rg J (-50) 50) (hB : bestR time k best Tc Tm (m.2.2 0 (14 + 10 * i + 2))) (lost : Bool) :
    ∃ best' Tc' Tm', bestR time (k + 1) best' Tc' Tm' (m.2.2 0 (14 + 10 * i + 2)) ∧ (∀ q, pX6_listen_L59 q (nI i) time best Tc (nI k) lost J t b = q (nI i) time best' Tc' (nI (k + 1)) t b) ∧ (∀ q, pX12_notes_L92 q time (nI i) best Tm (nI k) lost J m = q time (nI i) best' Tm' (nI (k + 1)) m) ∧ (∀ Q, Q (nI i) time best' Tc' (nI (k + 1)) t b → kX6_listen_L59 Q (nI i) time best Tc (nI k) lost J t b) ∧ (∀ Q, Q time (nI i) best' Tm' (nI (k + 1)) m → kX12_notes_L92 Q time (nI i) best Tm (nI k) lost J m) := by
  have hl := h.le
  obtain ⟨A1, A2, A3, A4⟩ := hA
  obtain ⟨K, w, T, s, K1, w1, T1, s1, r0, c0, r1, c1, r2, c2, r3, c3, r4, r5⟩ := A4 k hk
  obtain ⟨o1, o2⟩ := of_eq (m := m) (i := i) (k := 2) (kk := 2) rfl (by omega) (by omega)
  have tk : kX12_timeOf m (nI w) := (time_eq h w1).elim (fun _ q => q.2.2.2.2)
  have te : pX12_timeOf m (nI w) = nI T := c2
  have V : vp_in (nI k) 17 := vp_in_n (by omega) (by omega)
  obtain ⟨g1, g2⟩ := at6 (c := 3) (cc := 3) A1 A3 hk rfl (by omega)
  obtain ⟨f1, f2⟩ := at6 (c := 2) (cc := 2) A1 A3 hk rfl (by omega)
  obtain ⟨u1, u2⟩ := setting_eq (i := 4) (ii := 4) h rfl (by omega)
  obtain ⟨y1, y2⟩ := setting_eq (i := 5) (ii := 5) h rfl (by omega)
  obtain ⟨-, -, m2, -⟩ := h.mic hi
  have hB' : bestR time (k + 1) best Tc Tm (m.2.2 0 (14 + 10 * i + 2)) := by
    rcases hB with e | ⟨p, p1, p2⟩
    · exact Or.inl e
    · exact Or.inr ⟨p, by omega, p2⟩
  have h5 : best = -1000000000 ∨ vp_in best 17 := by
    rcases hB with e | ⟨p, p1, p2, -⟩
    · exact Or.inl e
    · exact Or.inr (by rw [p2]; exact vp_in_n (by omega) (by omega))
  unfold pX12_notes_L92 kX12_notes_L92 pX6_listen_L59 kX6_listen_L59 pX6_listen_L141 kX6_listen_L141 pX6_listen_L133 kX6_listen_L133 pX12_notes_L146 kX12_notes_L146 pX6_listen_L141 kX6_listen_L141
  simp only [lt, nI_clamp (show k < 2 ^ 31 by omega), c1, c3, te, o1, g1, f1, u1, r3, r2, nI_1]
  cases lost with
  | true =>
    simp only [if_true, n147_no, nI_1]
    exact ⟨best, Tc, Tm, hB', fun q => rfl, fun q => rfl, fun Q hq => hq, fun Q hq => ⟨V, tk, o2, kn147_no Q (by rw [nI_1]; exact hq) V h5⟩⟩
  | false =>
    simp only [Bool.false_eq_true, if_false]
    by_cases hs : nI s < m.2.2 0 11
    · have hs2 : ¬ m.2.2 0 (7 + 4) ≤ nI s := fun e => by
        have e : m.2.2 0 11 ≤ nI s := e
        rw [fa_lt] at hs
        rw [fa_le] at e
        omega
      simp only [if_pos hs, if_neg hs2, n147_no, nI_1]
      exact ⟨best, Tc, Tm, hB', fun q => rfl, fun q => rfl, fun Q hq => ⟨g2, u2, hq⟩, fun Q hq => ⟨V, tk, o2, V, kn147_no Q (by rw [nI_1]; exact hq) V h5⟩⟩
    · have hs2 : m.2.2 0 (7 + 4) ≤ nI s := by
        show m.2.2 0 11 ≤ nI s
        rw [fa_lt] at hs
        rw [fa_le]
        omega
      simp only [if_neg hs, if_pos hs2]
      have t1 := ht.1; have t2 := ht.2; have j1 := hJ.1; have j2 := hJ.2; have k1 := m2.1; have k2 := m2.2
      have eT := nI_toInt (n := T) (by omega)
      have q1 : (time + nI T).toInt = time.toInt + T := by rw [Kit.i32_add (by omega) (by omega), eT]
      have q2 : (time + nI T + J).toInt = time.toInt + T + J.toInt := by rw [Kit.i32_add (by omega) (by omega), q1]
      have q3 : (time + nI T + m.2.2 0 (14 + 10 * i + 2)).toInt = time.toInt + T + (m.2.2 0 (14 + 10 * i + 2)).toInt := by rw [Kit.i32_add (by omega) (by omega), q1]
      have q4 : (time + nI T + m.2.2 0 (14 + 10 * i + 2) + J).toInt = time.toInt + T + (m.2.2 0 (14 + 10 * i + 2)).toInt + J.toInt := by rw [Kit.i32_add (by omega) (by omega), q3]
      have q5 : (time + nI T + J + m.2.2 0 (14 + 10 * i + 2)).toInt = time.toInt + T + J.toInt + (m.2.2 0 (14 + 10 * i + 2)).toInt := by rw [Kit.i32_add (by omega) (by omega), q2]
      have hN : bestR time (k + 1) (nI k) (time + nI T + J) (time + nI T + m.2.2 0 (14 + 10 * i + 2) + J) (m.2.2 0 (14 + 10 * i + 2)) := Or.inr ⟨k, by omega, rfl, ⟨by omega, by omega⟩, Int32.toInt_inj.mp (by omega), by omega⟩
      rcases hB with e | ⟨p, p1, p2, p3, p4, p5⟩
      · unfold pX12_notes_L147 kX12_notes_L147
        simp only [if_pos e, n193, kn193, nI_1]
        exact ⟨_, _, _, hN, fun q => rfl, fun q => rfl, fun Q hq => ⟨g2, u2, f2, hq⟩, fun Q hq => ⟨V, tk, o2, V, hq⟩⟩
      · have e : ¬ best = -1000000000 := by rw [p2]; exact nI_nNO (by omega)
        have Vp : vp_in best 17 := h5.resolve_left e
        obtain ⟨K', w', T', s', K1', w1', T1', s1', r0', c0', r1', c1', r2', c2', r3', c3', r4', r5'⟩ := A4 p (by omega)
        obtain ⟨g1', g2'⟩ := at6 (c := 3) (cc := 3) A1 A3 (show p < L by omega) rfl (by omega)
        unfold pX12_notes_L147 kX12_notes_L147 pX6_isPreferred kX6_isPreferred
        simp only [if_neg e, y1]
        subst p2
        simp only [nI_clamp (show k < 2 ^ 31 by omega), nI_clamp (show p < 2 ^ 31 by omega), g1, g1', r3, r3', c3, c3']
        by_cases m0 : m.2.2 0 12 = 0
        · simp only [if_pos m0, if_pos (show m.2.2 0 (7 + 5) = 0 from m0)]
          by_cases ord : Tc ≤ time + nI T + J
          · have ord2 : Tm ≤ time + nI T + m.2.2 0 (14 + 10 * i + 2) + J := by
              rw [fa_le] at ord ⊢
              omega
            simp only [if_pos ord, if_pos ord2, Bool.false_eq_true, if_false, n197, kn197, nI_1]
            exact ⟨_, _, _, hB', fun q => rfl, fun q => rfl, fun Q hq => ⟨g2, u2, f2, ⟨y2, trivial⟩, hq⟩, fun Q hq => ⟨V, tk, o2, V, hq⟩⟩
          · have ord2 : ¬ Tm ≤ time + nI T + m.2.2 0 (14 + 10 * i + 2) + J := by
              rw [fa_le] at ord ⊢
              omega
            simp only [if_neg ord, if_neg ord2, if_true, n193, kn193, nI_1]
            exact ⟨_, _, _, hN, fun q => rfl, fun q => rfl, fun Q hq => ⟨g2, u2, f2, ⟨y2, trivial⟩, hq⟩, fun Q hq => ⟨V, tk, o2, V, hq⟩⟩
        · simp only [if_neg m0, if_neg (show ¬ m.2.2 0 (7 + 5) = 0 from m0)]
          by_cases ord : nI s ≤ nI s'
          · simp only [if_pos ord, Bool.false_eq_true, if_false, n197, kn197, nI_1]
            exact ⟨_, _, _, hB', fun q => rfl, fun q => rfl, fun Q hq => ⟨g2, u2, f2, ⟨y2, g2, g2'⟩, hq⟩, fun Q hq => ⟨V, tk, o2, V, V, Vp, hq⟩⟩
          · simp only [if_neg ord, if_true, n193, kn193, nI_1]
            exact ⟨_, _, _, hN, fun q => rfl, fun q => rfl, fun Q hq => ⟨g2, u2, f2, ⟨y2, g2, g2'⟩, hq⟩, fun Q hq => ⟨V, tk, o2, V, V, Vp, hq⟩⟩
end LISTEN
