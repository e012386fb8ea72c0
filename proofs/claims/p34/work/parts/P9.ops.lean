/-! PURE: the class's operations against the law's arrays: what places and sets -/
section OPS
variable {C R M W N : Nat} {b b' : BS} {g g' m m' w w' : Nat → Int32} {u : US} {s9 : SS} {kk : Int32}
theorem xb_no {γ : Type} {c : Nat} (d : γ) (k : Nat × γ) (h : c ≠ 0) : xb c d k = (c, d) := if_neg h
theorem xb_yes {γ : Type} (d : γ) (k : Nat × γ) : xb 0 d k = k := if_pos rfl
theorem xk_no {c : Nat} (k : Prop) (h : c ≠ 0) : xk c k := by unfold xk; rw [if_neg h]; trivial
theorem xk_yes {k : Prop} (h : k) : xk 0 k := by unfold xk; rw [if_pos rfl]; exact h
theorem there_t : pX11_requireThere true = 0 := rfl
theorem there_f : pX11_requireThere false = 1 := rfl
theorem range_t : pX11_requireRange true = 0 := rfl
theorem range_f : pX11_requireRange false = 2 := rfl
theorem bt_iff (x a z : Int32) : pX11_isBetween x a z = true ↔ rg x a.toInt z.toInt := by
  unfold pX11_isBetween rg
  by_cases h : x < a
  · rw [if_pos h]
    rw [fa_lt] at h
    simp only [Bool.false_eq_true, false_iff]
    omega
  · rw [if_neg h]
    rw [fa_lt] at h
    by_cases g : z < x
    · rw [if_pos g]
      rw [fa_lt] at g
      simp only [Bool.false_eq_true, false_iff]
      omega
    · rw [if_neg g]
      rw [fa_lt] at g
      simp only [true_iff]
      omega
theorem nI_of_rg {x : Int32} {a z : Nat} (h : rg x a z) : ∃ j : Nat, a ≤ j ∧ j ≤ z ∧ x = nI j := ⟨x.toInt.toNat, by have := h.1; omega, by have := h.2; omega, pu_nI (by have := h.1; omega)⟩
theorem bt_t {x a z : Int32} (h : rg x a.toInt z.toInt) : pX11_isBetween x a z = true := (bt_iff x a z).mpr h
theorem bt_f {x a z : Int32} (h : ¬ rg x a.toInt z.toInt) : pX11_isBetween x a z = false := by
  cases e : pX11_isBetween x a z with
  | false => rfl
  | true => exact absurd ((bt_iff x a z).mp e) h
theorem ref0 : pX11_refuse 0 = 0 := rfl
theorem ref2 : pX11_refuse 2 = 2 := rfl
theorem ref3 : pX11_refuse 3 = 3 := rfl
theorem okMic_cg {i j : Nat} (h : okMic m i) (e : ∀ c, c < 3 → m' (10 * j + c) = m (10 * i + c)) : okMic m' j := by
  unfold okMic
  rw [e 0 (by omega), e 1 (by omega), e 2 (by omega)]
  exact h
theorem okWall_cg {i j : Nat} (h : okWall w i) (e : ∀ c, c < 3 → w' (3 * j + c) = w (3 * i + c)) : okWall w' j := by
  unfold okWall
  rw [e 0 (by omega), e 1 (by omega), e 2 (by omega)]
  exact h
theorem okScr_cg {i j : Nat} (h : okScr w i) (e : ∀ c, c < 4 → w' (12 + 4 * j + c) = w (12 + 4 * i + c)) : okScr w' j := by
  unfold okScr
  rw [e 0 (by omega), e 1 (by omega), e 2 (by omega), e 3 (by omega)]
  exact h
theorem okN_cg {i j : Nat} (h : okN m i) (e : ∀ c, c < 10 → m' (10 * j + c) = m (10 * i + c)) : okN m' j := by
  unfold okN
  rw [e 3 (by omega), e 4 (by omega), e 5 (by omega)]
  exact h
theorem micR_cg {i j : Nat} (h : micR b m i) (eb : ∀ c, c < 9 → b'.2 0 (j * 9 + c) = b.2 0 (i * 9 + c)) (e : ∀ c, c < 10 → m' (10 * j + c) = m (10 * i + c)) : micR b' m' j := by
  intro k hk
  rw [eb k (by omega), e k (by omega)]
  exact h k hk
theorem NR_cg {i j : Nat} (h : NR b m i) (eb : ∀ c, c < 9 → b'.2 0 (j * 9 + c) = b.2 0 (i * 9 + c)) (e : ∀ c, c < 10 → m' (10 * j + c) = m (10 * i + c)) : NR b' m' j := by
  obtain ⟨h1, h2, h3⟩ := h
  refine ⟨?_, ?_, fun c hc => ?_⟩
  · rw [eb 3 (by omega), e 3 (by omega)]
    exact h1
  · unfold noteR at h2 ⊢
    rw [eb 4 (by omega), e 4 (by omega), e 5 (by omega)]
    exact h2
  · rw [eb (5 + c) (by omega), e (6 + c) (by omega)]
    exact h3 c hc
/-- a bench with other numbers of things -/
theorem BR.cnt (h : BR C R M W N b g m w) {M' W' N' : Nat} (hl : M' ≤ 4 ∧ W' ≤ 3 ∧ N' ≤ 3) (g0 : g' 0 = g 0) (g1 : g' 1 = g 1) (g2 : g' 2 = nI M') (g3 : g' 3 = nI W') (g4 : g' 4 = nI N') (gs : ∀ q, 5 ≤ q → q < 14 → g' q = g q)
    (om : ∀ i, i < M' → okMic m' i) (ow : ∀ i, i < W' → okWall w' i) (os : ∀ i, i < N' → okScr w' i) (c0 : b'.1 0 = b.1 0) (c1 : b'.1 1 = b.1 1) (c2 : b'.1 2 = b.1 2) (c3 : b'.1 3 = b.1 3) (c4 : b'.1 4 = nI M') (c5 : b'.1 5 = nI W') (c6 : b'.1 6 = nI N') (c7 : b'.1 7 = b.1 7)
    (rm : ∀ i, i < M' → micR b' m' i) (rw' : ∀ i, i < W' → ∀ k, k < 3 → b'.2 1 (i * 3 + k) = w' (3 * i + k)) (rs : ∀ i, i < N' → ∀ k, k < 4 → b'.2 2 (i * 4 + k) = w' (12 + 4 * i + k)) (d3 : b'.2 3 = b.2 3) : BR C R M' W' N' b' g' m' w' := by
  have hs := h.set
  refine ⟨⟨g0.trans h.eC, g1.trans h.eR, g2, g3, g4, h.le.1, h.le.2.1, hl, om, ow, os, ?_⟩, ?_⟩
  · unfold okSet at hs ⊢
    rw [gs 6 (by omega) (by omega), gs 7 (by omega) (by omega), gs 8 (by omega) (by omega), gs 9 (by omega) (by omega), gs 10 (by omega) (by omega), gs 11 (by omega) (by omega), gs 12 (by omega) (by omega), gs 13 (by omega) (by omega)]
    exact hs
  · unfold relB
    rw [g0, g1, g2, g3, g4, gs 5 (by omega) (by omega), gs 6 (by omega) (by omega), c0, c1, c2, c3, c4, c5, c6, c7]
    refine ⟨h.b0.trans h.eC.symm, h.b1.trans h.eR.symm, h.b2, h.b3, rfl, rfl, rfl, h.b7, rm, rw', rs, fun k hk => ?_⟩
    rw [d3, gs _ (by omega) (by omega)]
    exact h.setR hk
/-! a new field -/
theorem begin_no (b : BS) (s9 : SS) (u : US) (kk : Int32) : pX11_begin b s9 u kk 1 5 = (2, (0, (b, s9, u, kk))) ∧ kX11_begin b s9 u kk 1 5 := by
  have e : pX2_refusalOfField b 1 5 = 2 := by
    unfold pX2_refusalOfField
    rw [if_neg (by rw [bt_f (fun h => absurd h.1 (by decide))]; decide)]
  unfold pX11_begin kX11_begin
  rw [e, ref2, xb_no _ _ (by decide)]
  exact ⟨rfl, xk_no _ (by decide)⟩
theorem begin_ok (h : DR C R M W N b g m w) (hu : UO u) (s9 : SS) (kk : Int32) {c r : Nat} (hc : 2 ≤ c ∧ c ≤ 20) (hr : 2 ≤ r ∧ r ≤ 20) (g0 : g' 0 = nI c) (g1 : g' 1 = nI r) (gz : ∀ q, 2 ≤ q → q < 6 → g' q = 0) (gs : ∀ q, 6 ≤ q → q < 14 → g' q = g q) :
    ∃ (b' : BS) (u' : US), pX11_begin b s9 u kk (nI c) (nI r) = (0, (g 5, (b', pX8_outdate s9, u', kk))) ∧ kX11_begin b s9 u kk (nI c) (nI r) ∧ UO u' ∧ DR c r 0 0 0 b' g' m w := by
  obtain ⟨u', v1, v2, v3⟩ := save_ok hu b s9 kk
  have ec := nI_toInt (n := c) (by omega)
  have er := nI_toInt (n := r) (by omega)
  have e : pX2_refusalOfField b (nI c) (nI r) = 0 := by
    unfold pX2_refusalOfField
    rw [if_pos (bt_t ⟨by rw [ec]; exact Int.ofNat_le.mpr hc.1, by rw [ec]; exact Int.ofNat_le.mpr hc.2⟩), if_pos (bt_t ⟨by rw [er]; exact Int.ofNat_le.mpr hr.1, by rw [er]; exact Int.ofNat_le.mpr hr.2⟩)]
  unfold pX11_begin kX11_begin
  rw [e, ref0, xb_yes, v1]
  simp only [lt, bd]
  unfold pX2_startField
  simp only [lt]
  rw [h.1.b2]
  refine ⟨_, u', rfl, xk_yes v2, v3, ?_⟩
  · have hs := h.1.set
    refine ⟨⟨⟨g0, g1, gz 2 (by omega) (by omega), gz 3 (by omega) (by omega), gz 4 (by omega) (by omega), hc, hr, ⟨by omega, by omega, by omega⟩, fun i hi => by omega, fun i hi => by omega, fun i hi => by omega, ?_⟩, ?_⟩, fun i hi => by omega⟩
    · unfold okSet at hs ⊢
      rw [gs 6 (by omega) (by omega), gs 7 (by omega) (by omega), gs 8 (by omega) (by omega), gs 9 (by omega) (by omega), gs 10 (by omega) (by omega), gs 11 (by omega) (by omega), gs 12 (by omega) (by omega), gs 13 (by omega) (by omega)]
      exact hs
    · unfold relB
      rw [g0, g1, gz 2 (by omega) (by omega), gz 3 (by omega) (by omega), gz 4 (by omega) (by omega), gz 5 (by omega) (by omega), gs 6 (by omega) (by omega)]
      refine ⟨rfl, rfl, rfl, h.1.b3, rfl, rfl, rfl, h.1.b7, fun i hi => by omega, fun i hi => by omega, fun i hi => by omega, fun k hk => ?_⟩
      rw [gs _ (by omega) (by omega)]
      exact h.1.setR hk
/-! a microphone -/
theorem mic_no (b : BS) (s9 : SS) (u : US) (kk y : Int32) : pX11_addMicrophone b s9 u kk 2501 y = (2, (0, (b, s9, u, kk))) ∧ kX11_addMicrophone b s9 u kk 2501 y := by
  have e : pX2_refusalOfMicrophone b 2501 y = 2 := by
    unfold pX2_refusalOfMicrophone
    rw [if_neg (by rw [bt_f (fun h => absurd h.2 (by decide))]; decide)]
  unfold pX11_addMicrophone kX11_addMicrophone
  rw [e, ref2, xb_no _ _ (by decide)]
  exact ⟨rfl, xk_no _ (by decide)⟩
theorem mic_ok (h : DR C R M W N b g m w) (hu : UO u) (s9 : SS) (kk : Int32) (hM : M < 4) {x y : Int32} (hx : rg x (-500) 2500) (hy : rg y (-500) 2500) (g2 : g' 2 = nI (M + 1)) (gs : ∀ q, q ≠ 2 → g' q = g q) (m0 : m' (10 * M + 0) = x) (m1 : m' (10 * M + 1) = y) (mz : ∀ c, 2 ≤ c → c < 6 → m' (10 * M + c) = 0) (mn : ∀ c, 6 ≤ c → c < 10 → m' (10 * M + c) = -1000000000) (mo : ∀ q, q < 10 * M → m' q = m q) :
    ∃ (b' : BS) (u' : US), pX11_addMicrophone b s9 u kk x y = (0, (nI M, (b', pX8_outdate s9, u', kk))) ∧ kX11_addMicrophone b s9 u kk x y ∧ UO u' ∧ DR C R (M + 1) W N b' g' m' w := by
  have hl := h.1.le
  obtain ⟨u', v1, v2, v3⟩ := save_ok hu b s9 kk
  have e : pX2_refusalOfMicrophone b x y = 0 := by
    unfold pX2_refusalOfMicrophone
    rw [if_pos (bt_t hx), if_pos (bt_t hy), h.1.b4, full_eq (cap := 8) (C := 8) rfl (by omega) (by omega), if_neg (by simp; omega)]
  obtain ⟨a1, a2⟩ := addRow_eq (C := 8) (c := M) (w := 9) (len := 72) (cap := 8) (wid := 9) (f := b.2 0) rfl rfl (by omega) (by omega) (by omega) (by omega) (by omega)
  have P : ∀ (F : Nat → Int32) (k : Nat) (kk y : Int32), kk = nI k → k < 9 → pX9_put 8 9 72 (nI (M + 1), F) (nI M) kk y = (nI (M + 1), upd F (M * 9 + k) y) ∧ kX9_put 8 9 72 (nI (M + 1), F) (nI M) kk y := fun F k kk y e hk => put_in (w := 9) rfl e rfl (by omega) hk (by omega) (by omega) (by omega) (by omega)
  have E : pX2_placeMicrophone b x y = (nI M, bst b 0 (nI (M + 1), upd (upd (upd (upd (noneRow (b.2 0) (M * 9) (M * 9 + 9)) (M * 9 + 0) x) (M * 9 + 1) y) (M * 9 + 2) 0) (M * 9 + 3) 0)) ∧ kX2_placeMicrophone b x y := by
    unfold pX2_placeMicrophone kX2_placeMicrophone
    simp only [bd, lt, h.1.b4, a1, bst_t0, bst_bst, (P _ 0 0 _ rfl (by omega)).1, (P _ 1 1 _ rfl (by omega)).1, (P _ 2 2 _ rfl (by omega)).1, (P _ 3 3 _ rfl (by omega)).1]
    exact ⟨trivial, a2, (P _ 0 0 _ rfl (by omega)).2, (P _ 1 1 _ rfl (by omega)).2, (P _ 2 2 _ rfl (by omega)).2, (P _ 3 3 _ rfl (by omega)).2⟩
  obtain ⟨F, hF⟩ : ∃ F, F = upd (upd (upd (upd (noneRow (b.2 0) (M * 9) (M * 9 + 9)) (M * 9 + 0) x) (M * 9 + 1) y) (M * 9 + 2) 0) (M * 9 + 3) 0 := ⟨_, rfl⟩
  rw [← hF] at E
  have Fo : ∀ i c, i < M → c < 9 → F (i * 9 + c) = b.2 0 (i * 9 + c) := fun i c hi hc => by
    rw [hF, upd_ne _ _ (by omega), upd_ne _ _ (by omega), upd_ne _ _ (by omega), upd_ne _ _ (by omega)]
    unfold noneRow
    rw [if_neg (by omega)]
  have F0 : F (M * 9 + 0) = x := by rw [hF, upd_ne _ _ (by omega), upd_ne _ _ (by omega), upd_ne _ _ (by omega), upd_eq]
  have F1 : F (M * 9 + 1) = y := by rw [hF, upd_ne _ _ (by omega), upd_ne _ _ (by omega), upd_eq]
  have F2 : F (M * 9 + 2) = 0 := by rw [hF, upd_ne _ _ (by omega), upd_eq]
  have F3 : F (M * 9 + 3) = 0 := by rw [hF, upd_eq]
  have Fn : ∀ c, 4 ≤ c → c < 9 → F (M * 9 + c) = -1000000000 := fun c h4 hc => by
    rw [hF, upd_ne _ _ (by omega), upd_ne _ _ (by omega), upd_ne _ _ (by omega), upd_ne _ _ (by omega)]
    unfold noneRow
    rw [if_pos (by omega)]
  have eo : ∀ i, i < M → ∀ c, c < 10 → m' (10 * i + c) = m (10 * i + c) := fun i hi c hc => mo _ (by omega)
  unfold pX11_addMicrophone kX11_addMicrophone
  rw [e, ref0, xb_yes, v1]
  simp only [lt, bd, E.1]
  refine ⟨_, u', rfl, xk_yes ⟨v2, E.2⟩, v3, h.1.cnt ⟨by omega, hl.2.2.2.1, hl.2.2.2.2⟩ (gs 0 (by omega)) (gs 1 (by omega)) g2 ((gs 3 (by omega)).trans h.1.eW) ((gs 4 (by omega)).trans h.1.eN) (fun q h5 _ => gs q (by omega)) ?_ (fun i hi => h.1.wall hi) (fun i hi => h.1.scr hi) rfl rfl rfl rfl rfl h.1.b5 h.1.b6 rfl ?_ (fun i hi k hk => h.1.wallR hi hk) (fun i hi k hk => h.1.scrR hi hk) rfl, ?_⟩
  · intro i hi
    by_cases ei : i = M
    · subst ei
      unfold okMic
      rw [m0, m1, mz 2 (by omega) (by omega)]
      exact ⟨hx, hy, by decide, by decide⟩
    · exact okMic_cg (h.1.mic (show i < M by omega)) (fun c hc => eo i (by omega) c (by omega))
  · intro i hi
    by_cases ei : i = M
    · subst ei
      intro k hk
      show F _ = _
      have hc : k = 0 ∨ k = 1 ∨ k = 2 := by omega
      rcases hc with rfl | rfl | rfl
      · rw [F0, m0]
      · rw [F1, m1]
      · rw [F2, mz 2 (by omega) (by omega)]
    · exact micR_cg (h.1.mR (show i < M by omega)) (fun c hc => Fo i c (by omega) hc) (eo i (by omega))
  · intro i hi
    by_cases ei : i = M
    · subst ei
      refine ⟨?_, ?_, ?_, fun c hc => ?_⟩
      · unfold okN
        rw [mz 3 (by omega) (by omega), mz 4 (by omega) (by omega), mz 5 (by omega) (by omega)]
        exact ⟨⟨by decide, by decide⟩, Or.inl rfl, by decide, by decide⟩
      · rw [mz 3 (by omega) (by omega)]
        exact F3
      · unfold noteR
        rw [mz 4 (by omega) (by omega), if_neg (by decide)]
        exact Fn 4 (by omega) (by omega)
      · rw [mn (6 + c) (by omega) (by omega)]
        exact Fn (5 + c) (by omega) (by omega)
    · have := h.2 i (by omega)
      exact ⟨okN_cg this.1 (eo i (by omega)), NR_cg this.2 (fun c hc => Fo i c (by omega) hc) (eo i (by omega))⟩
/-! a wall -/
theorem wall_no (b : BS) (s9 : SS) (u : US) (kk : Int32) : pX11_addWall b s9 u kk 2 0 0 = (2, (0, (b, s9, u, kk))) ∧ kX11_addWall b s9 u kk 2 0 0 := by
  have e : pX2_refusalOfWall b 2 0 0 = 2 := by
    unfold pX2_refusalOfWall
    rw [if_neg (by rw [bt_f (fun h => absurd h.2 (by decide))]; decide)]
  unfold pX11_addWall kX11_addWall
  rw [e, ref2, xb_no _ _ (by decide)]
  exact ⟨rfl, xk_no _ (by decide)⟩
theorem z01 {a : Int32} (h : a = 0 ∨ a = 1) : rg a 0 1 := by
  rcases h with rfl | rfl
  · exact ⟨by decide, by decide⟩
  · exact ⟨by decide, by decide⟩
theorem wall_ok (h : DR C R M W N b g m w) (hu : UO u) (s9 : SS) (kk : Int32) (hW : W < 3) {a c l : Int32} (ha : a = 0 ∨ a = 1) (hc : rg c (-1000) 3000) (hl2 : rg l 0 100) (g3 : g' 3 = nI (W + 1)) (gs : ∀ q, q ≠ 3 → g' q = g q) (w0 : w' (3 * W + 0) = a) (w1 : w' (3 * W + 1) = c) (w2 : w' (3 * W + 2) = l) (wo : ∀ q, q < 3 * W ∨ 12 ≤ q → w' q = w q) :
    ∃ (b' : BS) (u' : US), pX11_addWall b s9 u kk a c l = (0, (nI W, (b', pX8_outdate s9, u', kk))) ∧ kX11_addWall b s9 u kk a c l ∧ UO u' ∧ DR C R M (W + 1) N b' g' m w' := by
  have hl := h.1.le
  obtain ⟨u', v1, v2, v3⟩ := save_ok hu b s9 kk
  have e : pX2_refusalOfWall b a c l = 0 := by
    unfold pX2_refusalOfWall
    rw [if_pos (bt_t (z01 ha)), if_pos (bt_t hc), if_pos (bt_t hl2), h.1.b5, full_eq (cap := 4) (C := 4) rfl (by omega) (by omega), if_neg (by simp; omega)]
  obtain ⟨a1, a2⟩ := addRow_eq (C := 4) (c := W) (w := 3) (len := 12) (cap := 4) (wid := 3) (f := b.2 1) rfl rfl (by omega) (by omega) (by omega) (by omega) (by omega)
  have P : ∀ (F : Nat → Int32) (k : Nat) (kk y : Int32), kk = nI k → k < 3 → pX9_put 4 3 12 (nI (W + 1), F) (nI W) kk y = (nI (W + 1), upd F (W * 3 + k) y) ∧ kX9_put 4 3 12 (nI (W + 1), F) (nI W) kk y := fun F k kk y e hk => put_in (w := 3) rfl e rfl (by omega) hk (by omega) (by omega) (by omega) (by omega)
  have E : pX2_placeWall b a c l = (nI W, bst b 1 (nI (W + 1), upd (upd (upd (noneRow (b.2 1) (W * 3) (W * 3 + 3)) (W * 3 + 0) a) (W * 3 + 1) c) (W * 3 + 2) l)) ∧ kX2_placeWall b a c l := by
    unfold pX2_placeWall kX2_placeWall
    simp only [bd, lt, h.1.b5, a1, bst_t1, bst_bst, (P _ 0 0 _ rfl (by omega)).1, (P _ 1 1 _ rfl (by omega)).1, (P _ 2 2 _ rfl (by omega)).1]
    exact ⟨trivial, a2, (P _ 0 0 _ rfl (by omega)).2, (P _ 1 1 _ rfl (by omega)).2, (P _ 2 2 _ rfl (by omega)).2⟩
  unfold pX11_addWall kX11_addWall
  rw [e, ref0, xb_yes, v1]
  simp only [lt, bd, E.1]
  refine ⟨_, u', rfl, xk_yes ⟨v2, E.2⟩, v3, h.1.cnt ⟨hl.2.2.1, by omega, hl.2.2.2.2⟩ (gs 0 (by omega)) (gs 1 (by omega)) ((gs 2 (by omega)).trans h.1.eM) g3 ((gs 4 (by omega)).trans h.1.eN) (fun q h5 _ => gs q (by omega)) (fun i hi => h.1.mic hi) ?_ (fun i hi => okScr_cg (h.1.scr hi) (fun c hc => wo _ (by omega))) rfl rfl rfl rfl h.1.b4 rfl h.1.b6 rfl (fun i hi => h.1.mR hi) ?_ ?_ rfl, fun i hi => h.2 i hi⟩
  · intro i hi
    by_cases ei : i = W
    · subst ei
      unfold okWall
      rw [w0, w1, w2]
      exact ⟨ha, hc, hl2⟩
    · exact okWall_cg (h.1.wall (show i < W by omega)) (fun c hc => wo _ (by omega))
  · intro i hi k hk
    show upd _ _ _ _ = _
    by_cases ei : i = W
    · subst ei
      have hc : k = 0 ∨ k = 1 ∨ k = 2 := by omega
      rcases hc with rfl | rfl | rfl
      · rw [w0, upd_ne _ _ (by omega), upd_ne _ _ (by omega), upd_eq]
      · rw [w1, upd_ne _ _ (by omega), upd_eq]
      · rw [w2, upd_eq]
    · rw [upd_ne _ _ (by omega), upd_ne _ _ (by omega), upd_ne _ _ (by omega), wo _ (by omega)]
      unfold noneRow
      rw [if_neg (by omega)]
      exact h.1.wallR (by omega) hk
  · intro i hi k hk
    rw [wo _ (by omega)]
    exact h.1.scrR hi hk
/-! a screen -/
theorem screen_no (b : BS) (s9 : SS) (u : US) (kk : Int32) : pX11_addScreen b s9 u kk 0 0 5 5 = (2, (0, (b, s9, u, kk))) ∧ kX11_addScreen b s9 u kk 0 0 5 5 := by
  have e : pX2_refusalOfScreen b 0 0 5 5 = 2 := by
    unfold pX2_refusalOfScreen
    rw [if_pos (bt_t ⟨by decide, by decide⟩), if_pos (bt_t ⟨by decide, by decide⟩), if_pos (bt_t ⟨by decide, by decide⟩), if_pos (bt_t ⟨by decide, by decide⟩), if_neg (by decide)]
  unfold pX11_addScreen kX11_addScreen
  rw [e, ref2, xb_no _ _ (by decide)]
  exact ⟨rfl, xk_no _ (by decide)⟩
theorem screen_ok (h : DR C R M W N b g m w) (hu : UO u) (s9 : SS) (kk : Int32) (hN : N < 3) {a c f z : Int32} (ha : a = 0 ∨ a = 1) (hc : rg c (-1000) 3000) (hf : rg f (-1000) 3000) (hz : rg z (-1000) 3000) (hfz : f.toInt < z.toInt) (g4 : g' 4 = nI (N + 1)) (gs : ∀ q, q ≠ 4 → g' q = g q) (w0 : w' (12 + 4 * N + 0) = a) (w1 : w' (12 + 4 * N + 1) = c) (w2 : w' (12 + 4 * N + 2) = f) (w3 : w' (12 + 4 * N + 3) = z) (wo : ∀ q, q < 12 + 4 * N → w' q = w q) :
    ∃ (b' : BS) (u' : US), pX11_addScreen b s9 u kk a c f z = (0, (nI N, (b', pX8_outdate s9, u', kk))) ∧ kX11_addScreen b s9 u kk a c f z ∧ UO u' ∧ DR C R M W (N + 1) b' g' m w' := by
  have hl := h.1.le
  obtain ⟨u', v1, v2, v3⟩ := save_ok hu b s9 kk
  have e : pX2_refusalOfScreen b a c f z = 0 := by
    unfold pX2_refusalOfScreen
    rw [if_pos (bt_t (z01 ha)), if_pos (bt_t hc), if_pos (bt_t hf), if_pos (bt_t hz), if_pos ((fa_lt _ _).mpr hfz), h.1.b6, full_eq (cap := 4) (C := 4) rfl (by omega) (by omega), if_neg (by simp; omega)]
  obtain ⟨a1, a2⟩ := addRow_eq (C := 4) (c := N) (w := 4) (len := 16) (cap := 4) (wid := 4) (f := b.2 2) rfl rfl (by omega) (by omega) (by omega) (by omega) (by omega)
  have P : ∀ (F : Nat → Int32) (k : Nat) (kk y : Int32), kk = nI k → k < 4 → pX9_put 4 4 16 (nI (N + 1), F) (nI N) kk y = (nI (N + 1), upd F (N * 4 + k) y) ∧ kX9_put 4 4 16 (nI (N + 1), F) (nI N) kk y := fun F k kk y e hk => put_in (w := 4) rfl e rfl (by omega) hk (by omega) (by omega) (by omega) (by omega)
  have E : pX2_placeScreen b a c f z = (nI N, bst b 2 (nI (N + 1), upd (upd (upd (upd (noneRow (b.2 2) (N * 4) (N * 4 + 4)) (N * 4 + 0) a) (N * 4 + 1) c) (N * 4 + 2) f) (N * 4 + 3) z)) ∧ kX2_placeScreen b a c f z := by
    unfold pX2_placeScreen kX2_placeScreen
    simp only [bd, lt, h.1.b6, a1, bst_t2, bst_bst, (P _ 0 0 _ rfl (by omega)).1, (P _ 1 1 _ rfl (by omega)).1, (P _ 2 2 _ rfl (by omega)).1, (P _ 3 3 _ rfl (by omega)).1]
    exact ⟨trivial, a2, (P _ 0 0 _ rfl (by omega)).2, (P _ 1 1 _ rfl (by omega)).2, (P _ 2 2 _ rfl (by omega)).2, (P _ 3 3 _ rfl (by omega)).2⟩
  unfold pX11_addScreen kX11_addScreen
  rw [e, ref0, xb_yes, v1]
  simp only [lt, bd, E.1]
  refine ⟨_, u', rfl, xk_yes ⟨v2, E.2⟩, v3, h.1.cnt ⟨hl.2.2.1, hl.2.2.2.1, by omega⟩ (gs 0 (by omega)) (gs 1 (by omega)) ((gs 2 (by omega)).trans h.1.eM) ((gs 3 (by omega)).trans h.1.eW) g4 (fun q h5 _ => gs q (by omega)) (fun i hi => h.1.mic hi) (fun i hi => okWall_cg (h.1.wall hi) (fun c hc => wo _ (by omega))) ?_ rfl rfl rfl rfl h.1.b4 h.1.b5 rfl rfl (fun i hi => h.1.mR hi) ?_ ?_ rfl, fun i hi => h.2 i hi⟩
  · intro i hi
    by_cases ei : i = N
    · subst ei
      unfold okScr
      rw [w0, w1, w2, w3]
      exact ⟨ha, hc, hf, hz, hfz⟩
    · exact okScr_cg (h.1.scr (show i < N by omega)) (fun c hc => wo _ (by omega))
  · intro i hi k hk
    rw [wo _ (by omega)]
    exact h.1.wallR hi hk
  · intro i hi k hk
    show upd _ _ _ _ = _
    by_cases ei : i = N
    · subst ei
      have hc : k = 0 ∨ k = 1 ∨ k = 2 ∨ k = 3 := by omega
      rcases hc with rfl | rfl | rfl | rfl
      · rw [w0, upd_ne _ _ (by omega), upd_ne _ _ (by omega), upd_ne _ _ (by omega), upd_eq]
      · rw [w1, upd_ne _ _ (by omega), upd_ne _ _ (by omega), upd_eq]
      · rw [w2, upd_ne _ _ (by omega), upd_eq]
      · rw [w3, upd_eq]
    · rw [upd_ne _ _ (by omega), upd_ne _ _ (by omega), upd_ne _ _ (by omega), upd_ne _ _ (by omega), wo _ (by omega)]
      unfold noneRow
      rw [if_neg (by omega)]
      exact h.1.scrR (by omega) hk
/-! a setting -/
def setLo : Nat → Int := fun k => if k = 0 then 100 else if k = 1 then 1 else 0
def setHi : Nat → Int := fun k => if k = 0 then 1000 else if k = 1 then 2 else if k = 2 then 100 else if k = 3 then 50 else if k = 4 then 1000 else if k = 5 then 1 else 500
theorem set_ok (h : DR C R M W N b g m w) (hu : UO u) (s9 : SS) (kk : Int32) {k : Nat} (hk : k < 7) {x : Int32} (hx : rg x (setLo k) (setHi k)) :
    ∃ (b' : BS) (u' : US), pX11_set b s9 u kk (nI k) x = (0, (g (7 + k), (b', pX8_outdate s9, u', kk))) ∧ kX11_set b s9 u kk (nI k) x ∧ UO u' ∧ DR C R M W N b' (upd g (7 + k) x) m w := by
  have hl := h.1.le
  obtain ⟨u', v1, v2, v3⟩ := save_ok hu b s9 kk
  obtain ⟨s1, s2⟩ := setting_eq (i := k) (ii := nI k) h.1 rfl hk
  have ek := nI_toInt (n := k) (by omega)
  have e : pX2_refusalOfSetting b (nI k) x = 0 ∧ kX2_refusalOfSetting b (nI k) x := by
    unfold pX2_refusalOfSetting kX2_refusalOfSetting
    have hb : pX11_isBetween (nI k) 0 6 = true := bt_t ⟨by rw [ek]; exact Int.ofNat_le.mpr (Nat.zero_le _), by rw [ek]; exact Int.ofNat_le.mpr (show k ≤ 6 by omega)⟩
    rw [if_pos hb, if_pos hb, nI_clamp (by omega)]
    have hv : pX11_isBetween x (sL2.getD k 0) (sL3.getD k 0) = true := by
      have hc : k = 0 ∨ k = 1 ∨ k = 2 ∨ k = 3 ∨ k = 4 ∨ k = 5 ∨ k = 6 := by omega
      rcases hc with rfl | rfl | rfl | rfl | rfl | rfl | rfl
      all_goals exact bt_t hx
    rw [if_pos hv]
    exact ⟨rfl, vp_in_n (by omega) (by omega), vp_in_n (by omega) (by omega)⟩
  obtain ⟨p1, p2⟩ := put_in (w := 1) (k := 0) (c := 7) (i := k) (cap := 7) (len := 7) (f := b.2 3) (ii := nI k) (kk := 0) (wid := 1) (x := x) rfl rfl rfl hk (by omega) (by omega) (by omega) (by omega) (by omega)
  have E : pX2_changeSetting b (nI k) x = (g (7 + k), bst b 3 (nI 7, upd (b.2 3) (k * 1 + 0) x)) ∧ kX2_changeSetting b (nI k) x := by
    unfold pX2_changeSetting kX2_changeSetting
    rw [s1, h.1.b7, p1]
    exact ⟨rfl, s2, p2⟩
  unfold pX11_set kX11_set
  rw [e.1, ref0, xb_yes, v1]
  simp only [lt, bd, E.1]
  refine ⟨_, u', rfl, ⟨e.2, xk_yes ⟨v2, E.2⟩⟩, v3, ?_, fun i hi => h.2 i hi⟩
  have hs := h.1.set
  refine h.1.chg (fun k hk => upd_ne _ _ (by omega)) ?_ (fun i hi k hk => rfl) rfl rfl rfl rfl rfl h.1.b7.symm ?_ ?_ (fun i hi k hk => rfl) rfl rfl ?_
  · unfold okSet at hs ⊢
    obtain ⟨s6, s7, s8, s9, s10, s11, s12, s13⟩ := hs
    rw [upd_ne (j := 6) _ _ (by omega)]
    have hc : k = 0 ∨ k = 1 ∨ k = 2 ∨ k = 3 ∨ k = 4 ∨ k = 5 ∨ k = 6 := by omega
    rcases hc with rfl | rfl | rfl | rfl | rfl | rfl | rfl
    · simp only [upd, Nat.reduceAdd, Nat.reduceEqDiff, if_true, if_false]
      exact ⟨s6, hx, s8, s9, s10, s11, s12, s13⟩
    · simp only [upd, Nat.reduceAdd, Nat.reduceEqDiff, if_true, if_false]
      exact ⟨s6, s7, hx, s9, s10, s11, s12, s13⟩
    · simp only [upd, Nat.reduceAdd, Nat.reduceEqDiff, if_true, if_false]
      exact ⟨s6, s7, s8, hx, s10, s11, s12, s13⟩
    · simp only [upd, Nat.reduceAdd, Nat.reduceEqDiff, if_true, if_false]
      exact ⟨s6, s7, s8, s9, hx, s11, s12, s13⟩
    · simp only [upd, Nat.reduceAdd, Nat.reduceEqDiff, if_true, if_false]
      exact ⟨s6, s7, s8, s9, s10, hx, s12, s13⟩
    · simp only [upd, Nat.reduceAdd, Nat.reduceEqDiff, if_true, if_false]
      exact ⟨s6, s7, s8, s9, s10, s11, hx, s13⟩
    · simp only [upd, Nat.reduceAdd, Nat.reduceEqDiff, if_true, if_false]
      exact ⟨s6, s7, s8, s9, s10, s11, s12, hx⟩
  · rw [upd_ne _ _ (by omega)]
    exact h.1.b2
  · rw [upd_ne _ _ (by omega)]
    exact h.1.b3
  · intro j hj
    show upd _ _ _ _ = _
    by_cases e : j = k
    · subst e; rw [upd_eq, upd_eq]
    · rw [upd_ne _ _ (by omega), upd_ne _ _ (by omega)]
      exact h.1.setR hj
theorem setS_ok (h : DR C R M W N b g m w) (hu : UO u) (s9 : SS) (kk : Int32) {x : Int32} (hx : 0 ≤ x.toInt) :
    ∃ (b' : BS) (u' : US), pX11_setS b s9 u kk x = (0, (g 6, (b', pX8_outdate s9, u', kk))) ∧ kX11_setS b s9 u kk x ∧ UO u' ∧ DR C R M W N b' (upd g 6 x) m w := by
  obtain ⟨u', v1, v2, v3⟩ := save_ok hu b s9 kk
  have c1 : ¬ x < 0 := fun e => by
    rw [fa_lt] at e
    have z0 : ((0 : Int32)).toInt = 0 := rfl
    omega
  unfold pX11_setS kX11_setS pX11_setS_L9 kX11_setS_L9
  rw [if_neg c1, if_neg c1, range_t, xb_yes, v1]
  simp only [lt]
  rw [h.1.b3]
  exact ⟨_, u', rfl, xk_yes v2, v3, h.1.s6 hx, fun i hi => h.2 i hi⟩
/-! a clock -/
theorem clock_no (h : DR C R 0 W N b g m w) (s9 : SS) (u : US) (kk : Int32) : pX11_setClock b s9 u kk 0 999 = (1, (0, (b, s9, u, kk))) ∧ kX11_setClock b s9 u kk 0 999 := by
  unfold pX11_setClock kX11_setClock
  have e : pX9_has 8 9 72 (b.1 4, b.2 0) 0 = false := by
    rw [h.1.b4, has_eq (by omega)]
    decide
  rw [e, there_f, xb_no _ _ (by decide)]
  exact ⟨rfl, xk_no _ (by decide)⟩
theorem hasM_in (h : BR C R M W N b g m w) {i : Nat} (hi : i < M) : pX9_has 8 9 72 (b.1 4, b.2 0) (nI i) = true := by
  have hl := h.le
  have e := nI_toInt (n := i) (by omega)
  rw [h.b4, has_eq (by omega), e]
  simp
  omega
theorem hasM_out (h : BR C R M W N b g m w) : pX9_has 8 9 72 (b.1 4, b.2 0) (nI M) = false := by
  have hl := h.le
  have e := nI_toInt (n := M) (by omega)
  rw [h.b4, has_eq (by omega), e]
  simp
theorem clock_ok (h : DR C R M W N b g m w) (hu : UO u) (s9 : SS) (kk : Int32) {i : Nat} (hi : i < M) {x : Int32} (hx : rg x (-500) 500) :
    ∃ (b' : BS) (u' : US), pX11_setClock b s9 u kk (nI i) x = (0, (m (10 * i + 2), (b', pX8_outdate s9, u', kk))) ∧ kX11_setClock b s9 u kk (nI i) x ∧ UO u' ∧ DR C R M W N b' g (upd m (10 * i + 2) x) w := by
  have hl := h.1.le
  obtain ⟨u', v1, v2, v3⟩ := save_ok hu b s9 kk
  obtain ⟨t1, t2⟩ := at9m (k := 2) (kk := 2) h.1 rfl hi (by omega)
  obtain ⟨p1, p2⟩ := put9 (k := 2) (kk := 2) (x := x) (f := b.2 0) h.1 rfl hi (by omega)
  unfold pX11_setClock kX11_setClock
  rw [hasM_in h.1 hi, there_t, xb_yes, bt_t hx, range_t, xb_yes, v1]
  simp only [lt, t1]
  rw [h.1.b4] at t2 ⊢
  rw [p1]
  refine ⟨_, u', rfl, xk_yes (xk_yes ⟨v2, t2, p2⟩), v3, ?_, fun j hj => ?_⟩
  · refine ⟨⟨h.1.eC, h.1.eR, h.1.eM, h.1.eW, h.1.eN, hl.1, hl.2.1, hl.2.2, fun j hj => ?_, fun j hj => h.1.wall hj, fun j hj => h.1.scr hj, h.1.set⟩, h.1.b0.trans h.1.eC.symm, h.1.b1.trans h.1.eR.symm, h.1.b2, h.1.b3, h.1.eM.symm, h.1.b5.trans h.1.eW.symm, h.1.b6.trans h.1.eN.symm, h.1.b7, fun j hj k hk => ?_, fun j hj k hk => h.1.wallR hj hk, fun j hj k hk => h.1.scrR hj hk, fun k hk => h.1.setR hk⟩
    · have hm := h.1.mic hj
      unfold okMic at hm ⊢
      rw [upd_ne (j := 10 * j + 0) _ _ (by omega), upd_ne (j := 10 * j + 1) _ _ (by omega)]
      by_cases ej : j = i
      · subst ej
        rw [upd_eq]
        exact ⟨hm.1, hm.2.1, hx⟩
      · rw [upd_ne _ _ (by omega)]
        exact hm
    · show upd _ _ _ _ = upd _ _ _ _
      by_cases ej : j * 9 + k = i * 9 + 2
      · have e1 : j = i := by omega
        have e2 : k = 2 := by omega
        subst e1 e2
        rw [upd_eq, upd_eq]
      · rw [upd_ne _ _ ej, upd_ne _ _ (by omega)]
        exact h.1.mR hj k hk
  · obtain ⟨o, n1, n2, n3⟩ := h.2 j hj
    refine ⟨?_, ?_, ?_, fun c hc => ?_⟩
    · unfold okN at o ⊢
      rw [upd_ne _ _ (by omega), upd_ne _ _ (by omega), upd_ne _ _ (by omega)]
      exact o
    · show upd _ _ _ _ = upd _ _ _ _
      rw [upd_ne _ _ (by omega), upd_ne _ _ (by omega)]
      exact n1
    · show upd _ _ _ _ = _
      unfold noteR at n2 ⊢
      rw [upd_ne _ _ (by omega), upd_ne _ _ (by omega), upd_ne _ _ (by omega)]
      exact n2
    · show upd _ _ _ _ = upd _ _ _ _
      rw [upd_ne _ _ (by omega), upd_ne _ _ (by omega)]
      exact n3 c hc
end OPS
