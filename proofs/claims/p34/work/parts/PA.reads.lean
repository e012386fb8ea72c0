/-! PURE: things removed -/
section REMOVE
variable {C R M W N : Nat} {b b' : BS} {g g' m m' w w' : Nat → Int32} {u : US} {s9 : SS} {kk : Int32}
theorem closes_L {len wd E : Nat} (hw : 0 < wd) (hE : E ≤ len) (hl : len ≤ 1000) (hw2 : wd ≤ 100) : ∀ (n q : Nat), q ≤ 1000 → E - q < n → ∀ x : Nat → Int32, ∃ F, pL_closes_L3 len n (nI wd) (nI E) (nI q) x = F ∧ kL_closes_L3 len n (nI wd) (nI E) (nI q) x ∧ ∀ p, F p = if q ≤ p ∧ p + wd < E then x (p + wd) else x p := by
  intro n
  induction n with
  | zero => intro q h0 h1; omega
  | succ n ih =>
    intro q h0 h1 x
    show ∃ F, bL_closes_L3 len (pL_closes_L3 len n) _ _ _ _ = _ ∧ kbL_closes_L3 len (kL_closes_L3 len n) _ _ _ _ ∧ _
    unfold bL_closes_L3 kbL_closes_L3
    rw [nI_add]
    by_cases e : E ≤ q + wd
    · rw [if_pos (nI_le e (by omega)), if_pos (nI_le e (by omega))]
      exact ⟨x, rfl, trivial, fun p => by rw [if_neg (by omega)]⟩
    · rw [if_neg (nI_ge (by omega) (by omega)), if_neg (nI_ge (by omega) (by omega))]
      simp only [nI_clamp (show q < 2 ^ 31 by omega), nI_clamp (show q + wd < 2 ^ 31 by omega), lt, nI_1]
      obtain ⟨F, f1, f2, f3⟩ := ih (q + 1) (by omega) (by omega) (upd x q (x (q + wd)))
      refine ⟨F, f1, ⟨vp_in_n (by omega) (by omega), vp_in_n (by omega) (by omega), f2⟩, fun p => ?_⟩
      rw [f3 p]
      by_cases c : p = q
      · rw [c, if_neg (by omega), upd_eq, if_pos (by omega)]
      · by_cases d : q ≤ p ∧ p + wd < E
        · rw [if_pos (by omega), if_pos d, upd_ne _ _ (by omega)]
        · rw [if_neg (by omega), if_neg d, upd_ne _ _ c]
theorem closes_eq {len wd E q : Nat} (hw : 0 < wd) (hE : E ≤ len) (hl : len ≤ 1000) (hw2 : wd ≤ 100) (hq : q ≤ 1000) (x : Nat → Int32) : kL_closes len x (nI q) (nI wd) (nI E) ∧ ∀ p, pL_closes len x (nI q) (nI wd) (nI E) p = if q ≤ p ∧ p + wd < E then x (p + wd) else x p := by
  obtain ⟨F, f1, f2, f3⟩ := closes_L hw hE hl hw2 fu q hq (by have := fu_ge; omega) x
  refine ⟨f2, fun p => ?_⟩
  rw [← f3 p, ← f1]
  rfl
theorem tab0 (b : BS) : pX2_tableOf b 0 = 0 := rfl
theorem tab1 (b : BS) : pX2_tableOf b 1 = 1 := rfl
theorem tab2 (b : BS) : pX2_tableOf b 2 = 2 := rfl
theorem tab3 (b : BS) : pX2_tableOf b 3 = 3 := rfl
theorem bt_k {k : Int32} (h : k = 0 ∨ k = 1 ∨ k = 2) : pX11_isBetween k 0 2 = true := by
  rcases h with rfl | rfl | rfl
  · exact bt_t ⟨by decide, by decide⟩
  · exact bt_t ⟨by decide, by decide⟩
  · exact bt_t ⟨by decide, by decide⟩
theorem hasW_in (h : BR C R M W N b g m w) {i : Nat} (hi : i < W) : pX9_has 4 3 12 (b.1 5, b.2 1) (nI i) = true := by
  have hl := h.le
  have e := nI_toInt (n := i) (by omega)
  rw [h.b5, has_eq (by omega), e]
  simp
  omega
theorem hasW_out (h : BR C R M W N b g m w) : pX9_has 4 3 12 (b.1 5, b.2 1) (nI W) = false := by
  have hl := h.le
  have e := nI_toInt (n := W) (by omega)
  rw [h.b5, has_eq (by omega), e]
  simp
theorem hasN_in (h : BR C R M W N b g m w) {i : Nat} (hi : i < N) : pX9_has 4 4 16 (b.1 6, b.2 2) (nI i) = true := by
  have hl := h.le
  have e := nI_toInt (n := i) (by omega)
  rw [h.b6, has_eq (by omega), e]
  simp
  omega
theorem hasN_out (h : BR C R M W N b g m w) : pX9_has 4 4 16 (b.1 6, b.2 2) (nI N) = false := by
  have hl := h.le
  have e := nI_toInt (n := N) (by omega)
  rw [h.b6, has_eq (by omega), e]
  simp
theorem rem0_no (h : BR C R M W N b g m w) (s9 : SS) (u : US) (kk : Int32) : pX11_remove b s9 u kk 0 (nI M) = (1, (0, (b, s9, u, kk))) ∧ kX11_remove b s9 u kk 0 (nI M) := by
  unfold pX11_remove kX11_remove
  rw [bt_k (Or.inl rfl), range_t, xb_yes, tab0]
  simp only [if_true]
  rw [hasM_out h, there_f, xb_no _ _ (by decide)]
  exact ⟨rfl, xk_yes (xk_no _ (by decide))⟩
theorem rem1_no (h : BR C R M W N b g m w) (s9 : SS) (u : US) (kk : Int32) : pX11_remove b s9 u kk 1 (nI W) = (1, (0, (b, s9, u, kk))) ∧ kX11_remove b s9 u kk 1 (nI W) := by
  unfold pX11_remove kX11_remove
  rw [bt_k (Or.inr (Or.inl rfl)), range_t, xb_yes, tab1]
  simp only [if_true, if_neg (show ¬ (1 : Nat) = 0 by decide)]
  rw [hasW_out h, there_f, xb_no _ _ (by decide)]
  exact ⟨rfl, xk_yes (xk_no _ (by decide))⟩
theorem rem2_no (h : BR C R M W N b g m w) (s9 : SS) (u : US) (kk : Int32) : pX11_remove b s9 u kk 2 (nI N) = (1, (0, (b, s9, u, kk))) ∧ kX11_remove b s9 u kk 2 (nI N) := by
  unfold pX11_remove kX11_remove
  rw [bt_k (Or.inr (Or.inr rfl)), range_t, xb_yes, tab2]
  simp only [if_true, if_neg (show ¬ (2 : Nat) = 0 by decide), if_neg (show ¬ (2 : Nat) = 1 by decide)]
  rw [hasN_out h, there_f, xb_no _ _ (by decide)]
  exact ⟨rfl, xk_yes (xk_no _ (by decide))⟩
theorem rem0_ok (h : DR C R M W N b g m w) (hu : UO u) (s9 : SS) (kk : Int32) {i : Nat} (hi : i < M) (g2 : g' 2 = nI (M - 1)) (gs : ∀ q, q ≠ 2 → g' q = g q) (hm : ∀ p, m' p = if 10 * i ≤ p ∧ p + 10 < 10 * M then m (p + 10) else m p) :
    ∃ (b' : BS) (u' : US), pX11_remove b s9 u kk 0 (nI i) = (0, (nI (M - 1), (b', pX8_outdate s9, u', kk))) ∧ kX11_remove b s9 u kk 0 (nI i) ∧ UO u' ∧ DR C R (M - 1) W N b' g' m' w := by
  have hl := h.1.le
  obtain ⟨u', v1, v2, v3⟩ := save_ok hu b s9 kk
  obtain ⟨d1, d2⟩ := drop_eq (cap := 8) (wid := 9) (ii := nI i) (c := M) (w := 9) (i := i) (len := 72) (f := b.2 0) rfl rfl hi (by omega) (by omega) (by omega) (by omega)
  unfold pX11_remove kX11_remove
  rw [bt_k (Or.inl rfl), range_t, xb_yes, tab0]
  simp only [if_true]
  rw [hasM_in h.1 hi, there_t, xb_yes, v1]
  simp only [lt]
  rw [h.1.b4, d1]
  have eo : ∀ j, j < M - 1 → ∀ c, c < 9 → va_cpy (b.2 0) (b.2 0) ((i + 1) * 9) (i * 9) ((M - i - 1) * 9) (j * 9 + c) = b.2 0 ((if j < i then j else j + 1) * 9 + c) := fun j hj c hc => by
    by_cases e : j < i
    · rw [if_pos e, pk_cpy_out (by omega)]
    · rw [if_neg e, pk_cpy_in (by omega) (by omega), show (i + 1) * 9 + (j * 9 + c - i * 9) = (j + 1) * 9 + c by omega]
  have em : ∀ j, j < M - 1 → ∀ c, c < 10 → m' (10 * j + c) = m (10 * (if j < i then j else j + 1) + c) := fun j hj c hc => by
    rw [hm]
    by_cases e : j < i
    · rw [if_pos e, if_neg (by omega)]
    · rw [if_neg e, if_pos (by omega), show 10 * j + c + 10 = 10 * (j + 1) + c by omega]
  have ej : ∀ j, j < M - 1 → (if j < i then j else j + 1) < M := fun j hj => by split <;> omega
  refine ⟨_, u', rfl, xk_yes (xk_yes ⟨v2, d2⟩), v3, h.1.cnt ⟨by omega, hl.2.2.2.1, hl.2.2.2.2⟩ (gs 0 (by omega)) (gs 1 (by omega)) g2 ((gs 3 (by omega)).trans h.1.eW) ((gs 4 (by omega)).trans h.1.eN) (fun q h5 _ => gs q (by omega)) (fun j hj => okMic_cg (h.1.mic (ej j hj)) (fun c hc => em j hj c (by omega))) (fun j hj => h.1.wall hj) (fun j hj => h.1.scr hj) rfl rfl rfl rfl rfl h.1.b5 h.1.b6 rfl (fun j hj => micR_cg (h.1.mR (ej j hj)) (eo j hj) (em j hj)) (fun j hj k hk => h.1.wallR hj hk) (fun j hj k hk => h.1.scrR hj hk) rfl, fun j hj => ?_⟩
  have := h.2 _ (ej j hj)
  exact ⟨okN_cg this.1 (em j hj), NR_cg this.2 (eo j hj) (em j hj)⟩
theorem rem1_ok (h : DR C R M W N b g m w) (hu : UO u) (s9 : SS) (kk : Int32) {i : Nat} (hi : i < W) (g3 : g' 3 = nI (W - 1)) (gs : ∀ q, q ≠ 3 → g' q = g q) (hm : ∀ p, w' p = if 3 * i ≤ p ∧ p + 3 < 3 * W then w (p + 3) else w p) :
    ∃ (b' : BS) (u' : US), pX11_remove b s9 u kk 1 (nI i) = (0, (nI (W - 1), (b', pX8_outdate s9, u', kk))) ∧ kX11_remove b s9 u kk 1 (nI i) ∧ UO u' ∧ DR C R M (W - 1) N b' g' m w' := by
  have hl := h.1.le
  obtain ⟨u', v1, v2, v3⟩ := save_ok hu b s9 kk
  obtain ⟨d1, d2⟩ := drop_eq (cap := 4) (wid := 3) (ii := nI i) (c := W) (w := 3) (i := i) (len := 12) (f := b.2 1) rfl rfl hi (by omega) (by omega) (by omega) (by omega)
  unfold pX11_remove kX11_remove
  rw [bt_k (Or.inr (Or.inl rfl)), range_t, xb_yes, tab1]
  simp only [if_true, if_neg (show ¬ (1 : Nat) = 0 by decide)]
  rw [hasW_in h.1 hi, there_t, xb_yes, v1]
  simp only [lt]
  rw [h.1.b5, d1]
  have eo : ∀ j, j < W - 1 → ∀ c, c < 3 → va_cpy (b.2 1) (b.2 1) ((i + 1) * 3) (i * 3) ((W - i - 1) * 3) (j * 3 + c) = b.2 1 ((if j < i then j else j + 1) * 3 + c) := fun j hj c hc => by
    by_cases e : j < i
    · rw [if_pos e, pk_cpy_out (by omega)]
    · rw [if_neg e, pk_cpy_in (by omega) (by omega), show (i + 1) * 3 + (j * 3 + c - i * 3) = (j + 1) * 3 + c by omega]
  have em : ∀ j, j < W - 1 → ∀ c, c < 3 → w' (3 * j + c) = w (3 * (if j < i then j else j + 1) + c) := fun j hj c hc => by
    rw [hm]
    by_cases e : j < i
    · rw [if_pos e, if_neg (by omega)]
    · rw [if_neg e, if_pos (by omega), show 3 * j + c + 3 = 3 * (j + 1) + c by omega]
  have ej : ∀ j, j < W - 1 → (if j < i then j else j + 1) < W := fun j hj => by split <;> omega
  have es : ∀ q, 12 ≤ q → w' q = w q := fun q hq => by rw [hm, if_neg (by omega)]
  refine ⟨_, u', rfl, xk_yes (xk_yes ⟨v2, d2⟩), v3, h.1.cnt ⟨hl.2.2.1, by omega, hl.2.2.2.2⟩ (gs 0 (by omega)) (gs 1 (by omega)) ((gs 2 (by omega)).trans h.1.eM) g3 ((gs 4 (by omega)).trans h.1.eN) (fun q h5 _ => gs q (by omega)) (fun j hj => h.1.mic hj) (fun j hj => okWall_cg (h.1.wall (ej j hj)) (em j hj)) (fun j hj => okScr_cg (h.1.scr hj) (fun c hc => es _ (by omega))) rfl rfl rfl rfl h.1.b4 rfl h.1.b6 rfl (fun j hj => h.1.mR hj) (fun j hj k hk => ?_) (fun j hj k hk => ?_) rfl, fun j hj => h.2 j hj⟩
  · rw [em j hj k hk]
    exact (eo j hj k hk).trans (h.1.wallR (ej j hj) hk)
  · rw [es _ (by omega)]
    exact h.1.scrR hj hk
theorem rem2_ok (h : DR C R M W N b g m w) (hu : UO u) (s9 : SS) (kk : Int32) {i : Nat} (hi : i < N) (g4 : g' 4 = nI (N - 1)) (gs : ∀ q, q ≠ 4 → g' q = g q) (hm : ∀ p, w' p = if 12 + 4 * i ≤ p ∧ p + 4 < 12 + 4 * N then w (p + 4) else w p) :
    ∃ (b' : BS) (u' : US), pX11_remove b s9 u kk 2 (nI i) = (0, (nI (N - 1), (b', pX8_outdate s9, u', kk))) ∧ kX11_remove b s9 u kk 2 (nI i) ∧ UO u' ∧ DR C R M W (N - 1) b' g' m w' := by
  have hl := h.1.le
  obtain ⟨u', v1, v2, v3⟩ := save_ok hu b s9 kk
  obtain ⟨d1, d2⟩ := drop_eq (cap := 4) (wid := 4) (ii := nI i) (c := N) (w := 4) (i := i) (len := 16) (f := b.2 2) rfl rfl hi (by omega) (by omega) (by omega) (by omega)
  unfold pX11_remove kX11_remove
  rw [bt_k (Or.inr (Or.inr rfl)), range_t, xb_yes, tab2]
  simp only [if_true, if_neg (show ¬ (2 : Nat) = 0 by decide), if_neg (show ¬ (2 : Nat) = 1 by decide)]
  rw [hasN_in h.1 hi, there_t, xb_yes, v1]
  simp only [lt]
  rw [h.1.b6, d1]
  have eo : ∀ j, j < N - 1 → ∀ c, c < 4 → va_cpy (b.2 2) (b.2 2) ((i + 1) * 4) (i * 4) ((N - i - 1) * 4) (j * 4 + c) = b.2 2 ((if j < i then j else j + 1) * 4 + c) := fun j hj c hc => by
    by_cases e : j < i
    · rw [if_pos e, pk_cpy_out (by omega)]
    · rw [if_neg e, pk_cpy_in (by omega) (by omega), show (i + 1) * 4 + (j * 4 + c - i * 4) = (j + 1) * 4 + c by omega]
  have em : ∀ j, j < N - 1 → ∀ c, c < 4 → w' (12 + 4 * j + c) = w (12 + 4 * (if j < i then j else j + 1) + c) := fun j hj c hc => by
    rw [hm]
    by_cases e : j < i
    · rw [if_pos e, if_neg (by omega)]
    · rw [if_neg e, if_pos (by omega), show 12 + 4 * j + c + 4 = 12 + 4 * (j + 1) + c by omega]
  have ej : ∀ j, j < N - 1 → (if j < i then j else j + 1) < N := fun j hj => by split <;> omega
  have es : ∀ q, q < 12 → w' q = w q := fun q hq => by rw [hm, if_neg (by omega)]
  refine ⟨_, u', rfl, xk_yes (xk_yes ⟨v2, d2⟩), v3, h.1.cnt ⟨hl.2.2.1, hl.2.2.2.1, by omega⟩ (gs 0 (by omega)) (gs 1 (by omega)) ((gs 2 (by omega)).trans h.1.eM) ((gs 3 (by omega)).trans h.1.eW) g4 (fun q h5 _ => gs q (by omega)) (fun j hj => h.1.mic hj) (fun j hj => okWall_cg (h.1.wall hj) (fun c hc => es _ (by omega))) (fun j hj => okScr_cg (h.1.scr (ej j hj)) (em j hj)) rfl rfl rfl rfl h.1.b4 h.1.b5 rfl rfl (fun j hj => h.1.mR hj) (fun j hj k hk => ?_) (fun j hj k hk => ?_) rfl, fun j hj => h.2 j hj⟩
  · rw [es _ (by omega)]
    exact h.1.wallR hj hk
  · rw [em j hj k hk]
    exact (eo j hj k hk).trans (h.1.scrR (ej j hj) hk)
end REMOVE
/-! PURE: what the class answers -/
section READS
variable {C R M W N : Nat} {b b' : BS} {g g' m m' w w' : Nat → Int32} {u : US} {s9 : SS} {kk : Int32}
theorem note_at (h : DR C R M W N b g m w) (kk : Int32) {i : Nat} (hi : i < M) : pX11_note b kk (nI i) = (0, (noteR m i, (b, kk))) ∧ kX11_note b kk (nI i) := by
  obtain ⟨e1, e2⟩ := h.at4 hi
  unfold pX11_note kX11_note
  rw [hasM_in h.1 hi, there_t, xb_yes, e1]
  exact ⟨rfl, xk_yes e2⟩
theorem note_no (h : BR C R M W N b g m w) (kk : Int32) : pX11_note b kk (nI M) = (1, (0, (b, kk))) ∧ kX11_note b kk (nI M) := by
  unfold pX11_note kX11_note
  rw [hasM_out h, there_f, xb_no _ _ (by decide)]
  exact ⟨rfl, xk_no _ (by decide)⟩
theorem bt_n {k a : Nat} {z : Int32} (hz : z = nI a) (hk : k ≤ a) (ha : a < 1000) : pX11_isBetween (nI k) 0 z = true := by
  subst hz
  refine bt_t ⟨?_, ?_⟩
  · rw [nI_toInt (by omega)]; exact Int.ofNat_le.mpr (Nat.zero_le _)
  · rw [nI_toInt (by omega), nI_toInt (by omega)]; exact Int.ofNat_le.mpr hk
theorem heard_at (h : DR C R M W N b g m w) (kk : Int32) {i c : Nat} (hi : i < M) (hc : c < 4) : pX11_heard b kk (nI i) (nI c) = (0, (m (10 * i + (6 + c)), (b, kk))) ∧ kX11_heard b kk (nI i) (nI c) := by
  obtain ⟨e1, e2⟩ := h.at5 (kk := 5 + nI c) (nI_add 5 c) hi hc
  unfold pX11_heard kX11_heard
  rw [hasM_in h.1 hi, there_t, xb_yes, show pX11_isBetween (nI c) 0 3 = true from bt_n (a := 3) rfl (by omega) (by omega), range_t, xb_yes, e1]
  exact ⟨rfl, xk_yes (xk_yes e2)⟩
theorem delay_same (h : DR C R M W N b g m w) (kk : Int32) {i : Nat} (hi : i < M) : pX11_delay b kk (nI i) (nI i) = (2, (0, (b, kk))) ∧ kX11_delay b kk (nI i) (nI i) := by
  unfold pX11_delay kX11_delay pX11_delay_L33 kX11_delay_L33 pX11_delay_L46 kX11_delay_L46
  rw [hasM_in h.1 hi]
  simp only [if_true]
  rw [there_t, xb_yes, range_f, xb_no _ _ (by decide)]
  exact ⟨rfl, xk_yes (xk_no _ (by decide))⟩
theorem delay_at (h : DR C R M W N b g m w) (kk : Int32) {i j : Nat} (hi : i < M) (hj : j < M) (hij : i ≠ j) : pX11_delay b kk (nI i) (nI j) = (0, (if m (10 * i + 4) = 1 ∧ m (10 * j + 4) = 1 then m (10 * i + 5) - m (10 * j + 5) else -1000000000, (b, kk))) ∧ kX11_delay b kk (nI i) (nI j) := by
  have hl := h.1.le
  obtain ⟨e1, e2⟩ := h.at4 hi
  obtain ⟨f1, f2⟩ := h.at4 hj
  obtain ⟨p1, p2⟩ := hasNoted_eq h hi
  obtain ⟨q1, q2⟩ := hasNoted_eq h hj
  have ne : ¬ nI i = nI j := fun e => hij ((nI_eq (by omega) (by omega)).mp e)
  unfold pX11_delay kX11_delay pX11_delay_L33 kX11_delay_L33 pX11_delay_L46 kX11_delay_L46
  rw [hasM_in h.1 hi, hasM_in h.1 hj]
  simp only [if_true, if_neg ne]
  rw [there_t, xb_yes, range_t, xb_yes, p1, q1, e1, f1]
  unfold hasM noteR
  by_cases c1 : m (10 * i + 4) = 1
  · by_cases c2 : m (10 * j + 4) = 1
    · simp only [c1, c2, decide_true, if_true, and_self]
      exact ⟨trivial, xk_yes (xk_yes ⟨p2, q2, e2, f2⟩)⟩
    · simp only [c1, c2, decide_true, decide_false, Bool.false_eq_true, if_true, if_false, and_false]
      exact ⟨trivial, xk_yes (xk_yes ⟨p2, q2, trivial⟩)⟩
  · simp only [c1, decide_false, Bool.false_eq_true, if_false, false_and]
    exact ⟨trivial, xk_yes (xk_yes ⟨p2, trivial⟩)⟩
theorem part0 (h : DR C R M W N b g m w) (kk : Int32) {i c : Nat} (hi : i < M) (hc : c < 4) : pX11_part b kk 0 (nI i) (nI c) = (0, (m (10 * i + c), (b, kk))) ∧ kX11_part b kk 0 (nI i) (nI c) := by
  have e : pX9_at 8 9 72 (b.1 4, b.2 0) (nI i) (nI c) = m (10 * i + c) ∧ kX9_at 8 9 72 (b.1 4, b.2 0) (nI i) (nI c) := by
    by_cases c3 : c = 3
    · subst c3
      exact h.at3 hi
    · exact at9m h.1 rfl hi (by omega)
  unfold pX11_part kX11_part pX11_part_L34 kX11_part_L34
  rw [bt_t (show rg (0 : Int32) _ _ from ⟨by decide, by decide⟩)]
  simp only [if_true]
  rw [show pX11_isBetween (nI c) 0 (sL0.getD (Int32.toNatClampNeg 0) 0 - 1) = true from bt_n (a := 3) (by decide) (by omega) (by omega)]
  simp only [if_true]
  rw [tab0]
  simp only [if_true]
  rw [range_t, xb_yes, hasM_in h.1 hi, there_t, xb_yes, e.1]
  exact ⟨rfl, vp_in_n (i := 0) (by omega) (by omega), xk_yes (xk_yes e.2)⟩
theorem part1 (h : DR C R M W N b g m w) (kk : Int32) {i c : Nat} (hi : i < W) (hc : c < 3) : pX11_part b kk 1 (nI i) (nI c) = (0, (w (3 * i + c), (b, kk))) ∧ kX11_part b kk 1 (nI i) (nI c) := by
  have e := at3 h.1 (k := c) (kk := nI c) rfl hi hc
  unfold pX11_part kX11_part pX11_part_L34 kX11_part_L34
  rw [bt_t (show rg (1 : Int32) _ _ from ⟨by decide, by decide⟩)]
  simp only [if_true]
  rw [show pX11_isBetween (nI c) 0 (sL0.getD (Int32.toNatClampNeg 1) 0 - 1) = true from bt_n (a := 2) (by decide) (by omega) (by omega)]
  simp only [if_true]
  rw [tab1]
  simp only [if_true, if_neg (show ¬ (1 : Nat) = 0 by decide)]
  rw [range_t, xb_yes, hasW_in h.1 hi, there_t, xb_yes, e.1]
  exact ⟨rfl, vp_in_n (i := 1) (by omega) (by omega), xk_yes (xk_yes e.2)⟩
theorem part2 (h : DR C R M W N b g m w) (kk : Int32) {i c : Nat} (hi : i < N) (hc : c < 4) : pX11_part b kk 2 (nI i) (nI c) = (0, (w (12 + 4 * i + c), (b, kk))) ∧ kX11_part b kk 2 (nI i) (nI c) := by
  have e := at4 h.1 (k := c) (kk := nI c) rfl hi hc
  unfold pX11_part kX11_part pX11_part_L34 kX11_part_L34
  rw [bt_t (show rg (2 : Int32) _ _ from ⟨by decide, by decide⟩)]
  simp only [if_true]
  rw [show pX11_isBetween (nI c) 0 (sL0.getD (Int32.toNatClampNeg 2) 0 - 1) = true from bt_n (a := 3) (by decide) (by omega) (by omega)]
  simp only [if_true]
  rw [tab2]
  simp only [if_true, if_neg (show ¬ (2 : Nat) = 0 by decide), if_neg (show ¬ (2 : Nat) = 1 by decide)]
  rw [range_t, xb_yes, hasN_in h.1 hi, there_t, xb_yes, e.1]
  exact ⟨rfl, vp_in_n (i := 2) (by omega) (by omega), xk_yes (xk_yes e.2)⟩
theorem part3 (h : DR C R M W N b g m w) (kk : Int32) {i : Nat} (hi : i < 7) : pX11_part b kk 3 (nI i) 0 = (0, (g (7 + i), (b, kk))) ∧ kX11_part b kk 3 (nI i) 0 := by
  have e := at1 h.1 (i := i) (ii := nI i) rfl hi
  have eh : pX9_has 7 1 7 (b.1 7, b.2 3) (nI i) = true := by
    rw [h.1.b7, has_eq (by omega), nI_toInt (by omega)]
    simp
    omega
  unfold pX11_part kX11_part pX11_part_L34 kX11_part_L34
  rw [bt_t (show rg (3 : Int32) _ _ from ⟨by decide, by decide⟩)]
  simp only [if_true]
  rw [bt_t (show rg (0 : Int32) _ _ from ⟨by decide, by decide⟩)]
  simp only [if_true]
  rw [tab3]
  simp only [if_true, if_neg (show ¬ (3 : Nat) = 0 by decide), if_neg (show ¬ (3 : Nat) = 1 by decide), if_neg (show ¬ (3 : Nat) = 2 by decide)]
  rw [range_t, xb_yes, eh, there_t, xb_yes, e.1]
  exact ⟨rfl, vp_in_n (i := 3) (by omega) (by omega), xk_yes ⟨trivial, xk_yes e.2⟩⟩
theorem part3_no (h : BR C R M W N b g m w) (kk : Int32) : pX11_part b kk 3 7 0 = (1, (0, (b, kk))) ∧ kX11_part b kk 3 7 0 := by
  have eh : pX9_has 7 1 7 (b.1 7, b.2 3) 7 = false := by
    rw [h.b7, has_eq (by omega)]
    decide
  unfold pX11_part kX11_part pX11_part_L34 kX11_part_L34
  rw [bt_t (show rg (3 : Int32) _ _ from ⟨by decide, by decide⟩)]
  simp only [if_true]
  rw [bt_t (show rg (0 : Int32) _ _ from ⟨by decide, by decide⟩)]
  simp only [if_true]
  rw [tab3]
  simp only [if_true, if_neg (show ¬ (3 : Nat) = 0 by decide), if_neg (show ¬ (3 : Nat) = 1 by decide), if_neg (show ¬ (3 : Nat) = 2 by decide)]
  rw [range_t, xb_yes, eh, there_f, xb_no _ _ (by decide)]
  exact ⟨rfl, vp_in_n (i := 3) (by omega) (by omega), xk_yes ⟨trivial, xk_no _ (by decide)⟩⟩
theorem whole_g (h : DR C R M W N b g m w) (s9 : SS) (kk : Int32) {k : Nat} (hk : k < 6) : pX11_whole s9 b kk (nI k) = (0, (g k, (s9, b, kk))) ∧ kX11_whole s9 b kk (nI k) := by
  have ek := nI_toInt (n := k) (by omega)
  have e6 : pX11_isBetween (nI k) 6 9 = false := bt_f (fun e => by
    have h1 := e.1
    rw [ek] at h1
    have h1 : (6 : Int) ≤ k := h1
    omega)
  unfold pX11_whole kX11_whole pX11_whole_L33 kX11_whole_L33
  rw [show pX11_isBetween (nI k) 0 10 = true from bt_n (a := 10) rfl (by omega) (by omega), range_t, xb_yes, e6]
  simp only [Bool.false_eq_true, if_false]
  have hc : k = 0 ∨ k = 1 ∨ k = 2 ∨ k = 3 ∨ k = 4 ∨ k = 5 := by omega
  rcases hc with rfl | rfl | rfl | rfl | rfl | rfl
  · exact ⟨by rw [← show b.1 0 = g 0 from h.1.b0.trans h.1.eC.symm]; rfl, xk_yes trivial⟩
  · exact ⟨by rw [← show b.1 1 = g 1 from h.1.b1.trans h.1.eR.symm]; rfl, xk_yes trivial⟩
  · exact ⟨by rw [← show b.1 4 = g 2 from h.1.b4.trans h.1.eM.symm]; rfl, xk_yes trivial⟩
  · exact ⟨by rw [← show b.1 5 = g 3 from h.1.b5.trans h.1.eW.symm]; rfl, xk_yes trivial⟩
  · exact ⟨by rw [← show b.1 6 = g 4 from h.1.b6.trans h.1.eN.symm]; rfl, xk_yes trivial⟩
  · exact ⟨by rw [← h.1.b2]; rfl, xk_yes trivial⟩
theorem whole_10 (h : DR C R M W N b g m w) (s9 : SS) (kk : Int32) : pX11_whole s9 b kk 10 = (0, (g 6, (s9, b, kk))) ∧ kX11_whole s9 b kk 10 := by
  unfold pX11_whole kX11_whole pX11_whole_L33 kX11_whole_L33
  rw [bt_t (show rg (10 : Int32) _ _ from ⟨by decide, by decide⟩), range_t, xb_yes, bt_f (fun e => absurd e.2 (by decide))]
  simp only [Bool.false_eq_true, if_false]
  exact ⟨by rw [← h.1.b3]; rfl, xk_yes trivial⟩
theorem whole_no (s9 : SS) (b : BS) (kk : Int32) : pX11_whole s9 b kk 11 = (2, (0, (s9, b, kk))) ∧ kX11_whole s9 b kk 11 := by
  unfold pX11_whole kX11_whole
  rw [bt_f (fun e => absurd e.2 (by decide)), range_f, xb_no _ _ (by decide)]
  exact ⟨rfl, xk_no _ (by decide)⟩
theorem whole_6 (h : DR C R M W N b g m w) {s9 : SS} (hV : SVI M m s9) (kk : Int32) : ∃ s', pX11_whole s9 b kk 6 = (0, (nI (nNot m M), (s', b, kk))) ∧ kX11_whole s9 b kk 6 ∧ SVI M m s' := by
  obtain ⟨s', a1, a2, a3, a4⟩ := take_ok h hV
  unfold pX11_whole kX11_whole pX11_whole_L33 kX11_whole_L33
  rw [bt_t (show rg (6 : Int32) _ _ from ⟨by decide, by decide⟩), range_t, xb_yes, bt_t (show rg (6 : Int32) _ _ from ⟨by decide, by decide⟩)]
  simp only [if_true, lt, a1]
  refine ⟨s', ?_, xk_yes ⟨a2, trivial⟩, a3⟩
  rw [← a4]
  rfl
theorem whole_7 (h : DR C R M W N b g m w) {s9 : SS} (hV : SVI M m s9) (kk : Int32) : ∃ s', pX11_whole s9 b kk 7 = (0, (nI (nNot m M) * (nI (nNot m M) - 1) / 2, (s', b, kk))) ∧ kX11_whole s9 b kk 7 ∧ SVI M m s' := by
  obtain ⟨s', a1, a2, a3, a4⟩ := take_ok h hV
  unfold pX11_whole kX11_whole pX11_whole_L33 kX11_whole_L33
  rw [bt_t (show rg (7 : Int32) _ _ from ⟨by decide, by decide⟩), range_t, xb_yes, bt_t (show rg (7 : Int32) _ _ from ⟨by decide, by decide⟩)]
  simp only [if_true, lt, a1]
  refine ⟨s', ?_, xk_yes ⟨a2, trivial⟩, a3⟩
  rw [← a4]
  rfl
theorem place_t {x y : Int32} (hx : rg x (-1000) 3000) (hy : rg y (-1000) 3000) : pX11_isClickPlace x y = true := by
  unfold pX11_isClickPlace
  rw [if_pos (bt_t hx), if_pos (bt_t hy)]
theorem arr_eq (h : DR C R M W N b g m w) (kk : Int32) {i : Nat} (hi : i < M) {x y : Int32} (hx : rg x (-1000) 3000) (hy : rg y (-1000) 3000) (a : Nat → Int32) : ∃ (L : Nat) (a' : Nat → Int32), L ≤ 12 ∧ pL_lists g m w a x y (nI i) = (nI L, a') ∧ kL_lists g m w a x y (nI i) ∧
    (∀ tr, ∃ t', pX11_arrivals tr b kk x y (nI i) = (0, (nI L, (t', b, kk))) ∧ kX11_arrivals tr b kk x y (nI i)) ∧
    (∀ tr, ∃ t', pX11_arrival tr b kk x y (nI i) (nI L) 0 = (0, (-1000000000, (t', b, kk))) ∧ kX11_arrival tr b kk x y (nI i) (nI L) 0) ∧
    (∀ j, j < L → ∀ tr c, c < 4 → ∃ t', pX11_arrival tr b kk x y (nI i) (nI j) (nI c) = (0, (if c = 0 then a' (5 * j + 0) else if c = 1 then a' (5 * j + 1) else if c = 2 then a' (5 * j + 1) * 1000 / g 7 else a' (5 * j + 2), (t', b, kk))) ∧ kX11_arrival tr b kk x y (nI i) (nI j) (nI c)) := by
  obtain ⟨⟨L, t0, a', e1, e2, hA⟩, k1, k2⟩ := collect_eq h.1 hi hx hy (0, fun _ => 0) a
  have U : ∀ tr, ∃ t', pX1_collect tr b x y (nI i) = (t', b) ∧ RA (g 7) L t' a' ∧ kX1_collect tr b x y (nI i) := fun tr => by
    obtain ⟨⟨L2, t2, a2, f1, f2, hA2⟩, k3, k4⟩ := collect_eq h.1 hi hx hy tr a
    rw [e2] at f2
    have hL := (Prod.mk.inj f2).1
    have ha := (Prod.mk.inj f2).2
    have hL2 : L2 = L := ((nI_eq (by have := hA.2.1; omega) (by have := hA2.2.1; omega)).mp hL).symm
    subst hL2 ha
    exact ⟨t2, f1, hA2, k3⟩
  have hL := hA.2.1
  refine ⟨L, a', hL, e2, k2, fun tr => ?_, fun tr => ?_, fun j hj tr c hc => ?_⟩
  · obtain ⟨t', u1, u2, u3⟩ := U tr
    unfold pX11_arrivals kX11_arrivals
    rw [hasM_in h.1 hi, there_t, xb_yes, place_t hx hy, range_t, xb_yes, u1]
    simp only [lt]
    refine ⟨t', ?_, xk_yes (xk_yes u3)⟩
    rw [u2.1]
  · obtain ⟨t', u1, u2, u3⟩ := U tr
    have o : pX9_at 17 6 102 t' (nI L) 0 = -1000000000 ∧ kX9_at 17 6 102 t' (nI L) 0 := by
      obtain ⟨t1, t2⟩ := t'
      have e9 : t1 = nI L := u2.1
      subst e9
      exact at_out rfl (Nat.le_refl _) (by omega)
    unfold pX11_arrival kX11_arrival pX11_arrival_L42 kX11_arrival_L42
    rw [hasM_in h.1 hi, there_t, xb_yes, place_t hx hy, bt_t (show rg (0 : Int32) _ _ from ⟨by decide, by decide⟩)]
    simp only [if_true, if_neg (nI_pos (n := L) (by omega))]
    rw [range_t, xb_yes, u1]
    simp only [lt, o.1]
    exact ⟨t', rfl, xk_yes (xk_yes ⟨u3, o.2⟩)⟩
  · obtain ⟨t', u1, u2, u3⟩ := U tr
    obtain ⟨K, w9, T, s, K1, w1, T1, s1, r0, c0, r1, c1, r2, c2, r3, c3, r4, r5⟩ := u2.2.2 j hj
    have o := at6 (t := t') (c := c) (cc := nI c) u2.1 (show L ≤ 17 by omega) hj rfl (by omega)
    have ov : t'.2 (j * 6 + c) = if c = 0 then a' (5 * j + 0) else if c = 1 then a' (5 * j + 1) else if c = 2 then a' (5 * j + 1) * 1000 / g 7 else a' (5 * j + 2) := by
      have hc' : c = 0 ∨ c = 1 ∨ c = 2 ∨ c = 3 := by omega
      rcases hc' with rfl | rfl | rfl | rfl
      · rw [if_pos rfl, r0, c0]
      · rw [if_neg (by omega), if_pos rfl, r1, c1]
      · rw [if_neg (by omega), if_neg (by omega), if_pos rfl, r2, c1, c2]
      · rw [if_neg (by omega), if_neg (by omega), if_neg (by omega), r3, c3]
    unfold pX11_arrival kX11_arrival pX11_arrival_L42 kX11_arrival_L42
    rw [hasM_in h.1 hi, there_t, xb_yes, place_t hx hy, show pX11_isBetween (nI c) 0 3 = true from bt_n (a := 3) rfl (by omega) (by omega)]
    simp only [if_true, if_neg (nI_pos (n := j) (by omega))]
    rw [range_t, xb_yes, u1]
    simp only [lt, o.1, ov]
    exact ⟨t', rfl, xk_yes (xk_yes ⟨u3, o.2⟩)⟩
theorem arr_none (h : DR C R 0 W N b g m w) (kk : Int32) (tr : TS) : pX11_arrivals tr b kk 0 0 0 = (1, (0, (tr, b, kk))) ∧ kX11_arrivals tr b kk 0 0 0 := by
  unfold pX11_arrivals kX11_arrivals
  rw [show pX9_has 8 9 72 (b.1 4, b.2 0) 0 = false from hasM_out h.1, there_f, xb_no _ _ (by decide)]
  exact ⟨rfl, xk_no _ (by decide)⟩
theorem arr_no (h : DR C R M W N b g m w) (kk : Int32) (tr : TS) {i : Nat} (hi : i < M) (y : Int32) : pX11_arrivals tr b kk 3001 y (nI i) = (2, (0, (tr, b, kk))) ∧ kX11_arrivals tr b kk 3001 y (nI i) := by
  unfold pX11_arrivals kX11_arrivals
  have e : pX11_isClickPlace 3001 y = false := by
    unfold pX11_isClickPlace
    rw [bt_f (fun e => absurd e.2 (by decide))]
    rfl
  rw [hasM_in h.1 hi, there_t, xb_yes, e, range_f, xb_no _ _ (by decide)]
  exact ⟨rfl, xk_yes (xk_no _ (by decide))⟩
end READS
