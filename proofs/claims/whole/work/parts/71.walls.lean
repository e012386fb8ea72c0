/-! PURE: walls and screens placed, settings, clocks, s -/
section WALLS
variable {C R M W N : Nat} {b b' : BS} {S S' : Nat → Int32} {m : MS}
theorem BR.parts (h : BR C R M W N b S) {W' N' : Nat} (e : ∀ q, q < 94 → q ≠ 3 → q ≠ 4 → S' q = S q) (w : S' 3 = nI W') (n : S' 4 = nI N') (hW : W' ≤ 4) (hN : N' ≤ 4) (ow : ∀ i, i < W' → okWall S' i) (os : ∀ i, i < N' → okScr S' i) (c0 : b'.1 0 = b.1 0) (c1 : b'.1 1 = b.1 1) (c2 : b'.1 2 = b.1 2) (c3 : b'.1 3 = b.1 3) (c4 : b'.1 4 = b.1 4) (c7 : b'.1 7 = b.1 7) (c5 : b'.1 5 = nI W') (c6 : b'.1 6 = nI N') (d0 : b'.2 0 = b.2 0) (d3 : b'.2 3 = b.2 3) (rw' : ∀ i, i < W' → ∀ k, k < 3 → b'.2 1 (i * 3 + k) = S' (94 + 3 * i + k)) (rs : ∀ i, i < N' → ∀ k, k < 4 → b'.2 2 (i * 4 + k) = S' (106 + 4 * i + k)) : BR C R M W' N' b' S' := by
  have hl := h.le
  have hs := h.set
  refine ⟨⟨(e 0 (by omega) (by omega) (by omega)).trans h.eC, (e 1 (by omega) (by omega) (by omega)).trans h.eR, (e 2 (by omega) (by omega) (by omega)).trans h.eM, w, n, hl.1, hl.2.1, ⟨by omega, hW, hN⟩, fun i hi => okMic_same (h.mic hi) (fun k hk => e _ (by omega) (by omega) (by omega)), ow, os, ?_⟩, ?_⟩
  · unfold okSet at hs ⊢
    rw [e 6 (by omega) (by omega) (by omega), e 7 (by omega) (by omega) (by omega), e 8 (by omega) (by omega) (by omega), e 9 (by omega) (by omega) (by omega), e 10 (by omega) (by omega) (by omega), e 11 (by omega) (by omega) (by omega), e 12 (by omega) (by omega) (by omega), e 13 (by omega) (by omega) (by omega)]
    exact hs
  · unfold relB
    rw [w, n, e 0 (by omega) (by omega) (by omega), e 1 (by omega) (by omega) (by omega), e 2 (by omega) (by omega) (by omega), e 5 (by omega) (by omega) (by omega), e 6 (by omega) (by omega) (by omega), c0, c1, c2, c3, c4, c7]
    refine ⟨h.b0.trans h.eC.symm, h.b1.trans h.eR.symm, h.b2, h.b3, h.b4.trans h.eM.symm, c5, c6, h.b7, fun i hi => micR_same (i := i) (h.mR hi) (fun k hk => by rw [d0]) (fun k hk => e _ (by omega) (by omega) (by omega)), rw', rs, fun k hk => ?_⟩
    rw [d3, e _ (by omega) (by omega) (by omega)]
    exact h.setR hk
theorem wall_eq (h : BR C R M W N b (m.2.2 0)) (a c l : Int32) : stepR m (pX2_refusalOfWall b a c l) (pX2_placeWall b a c l) (kX2_placeWall b a c l) (pX12_walls m a c l) (kX12_walls m a c l) := by
  have hl := h.le
  unfold stepR pX2_refusalOfWall pX12_walls kX12_walls pX12_isPlace
  rw [in_eq, in_eq, in_eq, h.b5, full_eq (cap := 4) (C := 4) rfl (by omega) (by omega), h.eW]
  by_cases ha : pX12_in a 0 1 = true
  · by_cases hc : pX12_in c (-1000) 3000 = true
    · by_cases hw : pX12_in l 0 100 = true
      · by_cases h4 : W = 4
        · subst h4
          simp only [if_pos ha, if_pos hc, if_pos hw, show nI 4 = 4 from rfl, if_true, show decide (4 ≤ 4) = true from rfl]
          exact ⟨trivial, Or.inl ⟨by simp, by simp⟩⟩
        · have e4 : ¬ nI W = 4 := fun e => h4 ((nI_eq (b := 4) (by omega) (by omega)).mp e)
          have d4 : ¬ decide (4 ≤ W) = true := by simp; omega
          have hW : W < 4 := by omega
          obtain ⟨x0, -, x1, x2⟩ := wall_ix (q := W) (k := 0) hW (by omega)
          obtain ⟨-, y1, y2, y3⟩ := wall_ix (q := W) (k := 1) hW (by omega)
          obtain ⟨-, z1, z2, z3⟩ := wall_ix (q := W) (k := 2) hW (by omega)
          have x1 : (nI (94 + 3 * W)).toNatClampNeg = 94 + 3 * W + 0 := x1
          have x2 : vp_in (nI (94 + 3 * W)) 122 := x2
          have y1 : nI (94 + 3 * W) + 1 = nI (94 + 3 * W + 1) := y1
          have z1 : nI (94 + 3 * W) + 2 = nI (94 + 3 * W + 2) := z1
          simp only [if_pos ha, if_pos hc, if_pos hw, if_neg e4, if_neg d4, lt, msi_1, msi_3, upd_eq, x0, x1, x2, y1, y2, y3, z1, z2, z3, msa_3, updA_eq, msa_msa, true_and]
          refine Or.inr ?_
          obtain ⟨a1, a2⟩ := addRow_eq (C := 4) (c := W) (w := 3) (len := 12) (cap := 4) (wid := 3) (f := b.2 1) rfl rfl hW (by omega) (by omega) (by omega) (by omega)
          have P : ∀ (F : Nat → Int32) (k : Nat) (kk y : Int32), kk = nI k → k < 3 → pX9_put 4 3 12 (nI (W + 1), F) (nI W) kk y = (nI (W + 1), upd F (W * 3 + k) y) ∧ kX9_put 4 3 12 (nI (W + 1), F) (nI W) kk y := fun F k kk y e hk => put_in (w := 3) rfl e rfl (by omega) hk (by omega) (by omega) (by omega) (by omega)
          have E : pX2_placeWall b a c l = (nI W, bst b 1 (nI (W + 1), upd (upd (upd (noneRow (b.2 1) (W * 3) (W * 3 + 3)) (W * 3 + 0) a) (W * 3 + 1) c) (W * 3 + 2) l)) ∧ kX2_placeWall b a c l := by
            unfold pX2_placeWall kX2_placeWall
            simp only [bd, lt, h.b5, a1, bst_t1, bst_bst, (P _ 0 0 _ rfl (by omega)).1, (P _ 1 1 _ rfl (by omega)).1, (P _ 2 2 _ rfl (by omega)).1]
            exact ⟨trivial, a2, (P _ 0 0 _ rfl (by omega)).2, (P _ 1 1 _ rfl (by omega)).2, (P _ 2 2 _ rfl (by omega)).2⟩
          rw [E.1]
          refine ⟨E.2, rfl, (show upd m.1 5 (nI W) 5 = nI W from upd_eq _ _ _), ⟨rfl, rfl, rfl, rfl, rfl, rfl, rfl⟩, C, R, M, W + 1, N, ?_⟩
          obtain ⟨F, hF⟩ : ∃ F, F = upd (upd (upd (upd (m.2.2 0) (94 + 3 * W + 0) a) (94 + 3 * W + 1) c) (94 + 3 * W + 2) l) 3 (upd (upd (upd (m.2.2 0) (94 + 3 * W + 0) a) (94 + 3 * W + 1) c) (94 + 3 * W + 2) l 3 + 1) := ⟨_, rfl⟩
          show BR C R M (W + 1) N _ (upd (upd (upd (upd (m.2.2 0) (94 + 3 * W + 0) a) (94 + 3 * W + 1) c) (94 + 3 * W + 2) l) 3 (upd (upd (upd (m.2.2 0) (94 + 3 * W + 0) a) (94 + 3 * W + 1) c) (94 + 3 * W + 2) l 3 + 1))
          rw [← hF]
          have F3 : F 3 = nI (W + 1) := by
            rw [hF, upd_eq, upd_ne _ _ (by omega), upd_ne _ _ (by omega), upd_ne _ _ (by omega), h.eW, nI_1]
          have F0 : F (94 + 3 * W + 0) = a := by
            rw [hF, upd_ne _ _ (by omega), upd_ne _ _ (by omega), upd_ne _ _ (by omega), upd_eq]
          have F1 : F (94 + 3 * W + 1) = c := by
            rw [hF, upd_ne _ _ (by omega), upd_ne _ _ (by omega), upd_eq]
          have F2 : F (94 + 3 * W + 2) = l := by
            rw [hF, upd_ne _ _ (by omega), upd_eq]
          have FN : ∀ q, q ≠ 3 → q < 94 + 3 * W ∨ 94 + 3 * W + 3 ≤ q → F q = m.2.2 0 q := fun q q1 q2 => by
            rw [hF, upd_ne _ _ (by omega), upd_ne _ _ (by omega), upd_ne _ _ (by omega), upd_ne _ _ (by omega)]
          refine h.parts (fun q q1 q2 q3 => FN q q2 (by omega)) F3 ((FN 4 (by omega) (by omega)).trans h.eN) (by omega) (by omega) ?_ (fun i hi => okScr_same (h.scr hi) (fun k hk => FN _ (by omega) (by omega))) rfl rfl rfl rfl rfl rfl rfl h.b6 rfl rfl ?_ ?_
          · intro i hi
            by_cases e : i = W
            · subst e
              unfold okWall
              rw [F0, F1, F2]
              have hr := (in_iff _ _ _).mp ha
              have r1 := hr.1; have r2 := hr.2
              have r1 : 0 ≤ a.toInt := r1
              have r2 : a.toInt ≤ 1 := r2
              refine ⟨?_, (in_iff _ _ _).mp hc, (in_iff _ _ _).mp hw⟩
              by_cases e0 : a.toInt = 0
              · exact Or.inl (Int32.toInt_inj.mp e0)
              · exact Or.inr (Int32.toInt_inj.mp (show a.toInt = 1 by omega))
            · exact okWall_same (h.wall (show i < W by omega)) (fun k hk => FN _ (by omega) (by omega))
          · intro i hi k hk
            show upd _ _ _ _ = _
            by_cases e : i = W
            · subst e
              have hc : k = 0 ∨ k = 1 ∨ k = 2 := by omega
              rcases hc with rfl | rfl | rfl
              · rw [F0, upd_ne _ _ (by omega), upd_ne _ _ (by omega), upd_eq]
              · rw [F1, upd_ne _ _ (by omega), upd_eq]
              · rw [F2, upd_eq]
            · rw [upd_ne _ _ (by omega), upd_ne _ _ (by omega), upd_ne _ _ (by omega), FN _ (by omega) (by omega)]
              unfold noneRow
              rw [if_neg (by omega)]
              exact h.wallR (by omega) hk
          · intro i hi k hk
            rw [FN _ (by omega) (by omega)]
            exact h.scrR hi hk
      · simp only [if_pos ha, if_pos hc, if_neg hw]
        exact ⟨trivial, Or.inl ⟨by simp, by simp⟩⟩
    · simp only [if_pos ha, if_neg hc]
      exact ⟨trivial, Or.inl ⟨by simp, by simp⟩⟩
  · simp only [if_neg ha]
    exact ⟨trivial, Or.inl ⟨by simp, by simp⟩⟩
theorem screen_eq (h : BR C R M W N b (m.2.2 0)) (a c f g : Int32) : stepR m (pX2_refusalOfScreen b a c f g) (pX2_placeScreen b a c f g) (kX2_placeScreen b a c f g) (pX12_screens m a c f g) (kX12_screens m a c f g) := by
  have hl := h.le
  unfold stepR pX2_refusalOfScreen pX12_screens kX12_screens pX12_isPlace
  rw [in_eq, in_eq, in_eq, in_eq, h.b6, full_eq (cap := 4) (C := 4) rfl (by omega) (by omega), h.eN]
  by_cases ha : pX12_in a 0 1 = true
  · by_cases hc : pX12_in c (-1000) 3000 = true
    · by_cases hf : pX12_in f (-1000) 3000 = true
      · by_cases hg : pX12_in g (-1000) 3000 = true
        · by_cases hfg : f < g
          · by_cases h4 : N = 4
            · subst h4
              simp only [if_pos ha, if_pos hc, if_pos hf, if_pos hg, if_pos hfg, show nI 4 = 4 from rfl, if_true, show decide (4 ≤ 4) = true from rfl]
              exact ⟨trivial, Or.inl ⟨by simp, by simp⟩⟩
            · have e4 : ¬ nI N = 4 := fun e => h4 ((nI_eq (b := 4) (by omega) (by omega)).mp e)
              have d4 : ¬ decide (4 ≤ N) = true := by simp; omega
              have hN : N < 4 := by omega
              obtain ⟨x0, -, x1, x2⟩ := scr_ix (q := N) (k := 0) hN (by omega)
              obtain ⟨-, y1, y2, y3⟩ := scr_ix (q := N) (k := 1) hN (by omega)
              obtain ⟨-, z1, z2, z3⟩ := scr_ix (q := N) (k := 2) hN (by omega)
              obtain ⟨-, w1, w2, w3⟩ := scr_ix (q := N) (k := 3) hN (by omega)
              have x1 : (nI (106 + 4 * N)).toNatClampNeg = 106 + 4 * N + 0 := x1
              have x2 : vp_in (nI (106 + 4 * N)) 122 := x2
              have y1 : nI (106 + 4 * N) + 1 = nI (106 + 4 * N + 1) := y1
              have z1 : nI (106 + 4 * N) + 2 = nI (106 + 4 * N + 2) := z1
              have w1 : nI (106 + 4 * N) + 3 = nI (106 + 4 * N + 3) := w1
              simp only [if_pos ha, if_pos hc, if_pos hf, if_pos hg, if_pos hfg, if_neg e4, if_neg d4, lt, msi_1, msi_3, upd_eq, x0, x1, x2, y1, y2, y3, z1, z2, z3, w1, w2, w3, msa_3, updA_eq, msa_msa, true_and]
              refine Or.inr ?_
              obtain ⟨a1, a2⟩ := addRow_eq (C := 4) (c := N) (w := 4) (len := 16) (cap := 4) (wid := 4) (f := b.2 2) rfl rfl hN (by omega) (by omega) (by omega) (by omega)
              have P : ∀ (F : Nat → Int32) (k : Nat) (kk y : Int32), kk = nI k → k < 4 → pX9_put 4 4 16 (nI (N + 1), F) (nI N) kk y = (nI (N + 1), upd F (N * 4 + k) y) ∧ kX9_put 4 4 16 (nI (N + 1), F) (nI N) kk y := fun F k kk y e hk => put_in (w := 4) rfl e rfl (by omega) hk (by omega) (by omega) (by omega) (by omega)
              have E : pX2_placeScreen b a c f g = (nI N, bst b 2 (nI (N + 1), upd (upd (upd (upd (noneRow (b.2 2) (N * 4) (N * 4 + 4)) (N * 4 + 0) a) (N * 4 + 1) c) (N * 4 + 2) f) (N * 4 + 3) g)) ∧ kX2_placeScreen b a c f g := by
                unfold pX2_placeScreen kX2_placeScreen
                simp only [bd, lt, h.b6, a1, bst_t2, bst_bst, (P _ 0 0 _ rfl (by omega)).1, (P _ 1 1 _ rfl (by omega)).1, (P _ 2 2 _ rfl (by omega)).1, (P _ 3 3 _ rfl (by omega)).1]
                exact ⟨trivial, a2, (P _ 0 0 _ rfl (by omega)).2, (P _ 1 1 _ rfl (by omega)).2, (P _ 2 2 _ rfl (by omega)).2, (P _ 3 3 _ rfl (by omega)).2⟩
              rw [E.1]
              refine ⟨E.2, rfl, (show upd m.1 5 (nI N) 5 = nI N from upd_eq _ _ _), ⟨rfl, rfl, rfl, rfl, rfl, rfl, rfl⟩, C, R, M, W, N + 1, ?_⟩
              obtain ⟨G, hG⟩ : ∃ G, G = upd (upd (upd (upd (m.2.2 0) (106 + 4 * N + 0) a) (106 + 4 * N + 1) c) (106 + 4 * N + 2) f) (106 + 4 * N + 3) g := ⟨_, rfl⟩
              obtain ⟨F, hF⟩ : ∃ F, F = upd G 4 (G 4 + 1) := ⟨_, rfl⟩
              show BR C R M W (N + 1) _ (upd (upd (upd (upd (upd (m.2.2 0) (106 + 4 * N + 0) a) (106 + 4 * N + 1) c) (106 + 4 * N + 2) f) (106 + 4 * N + 3) g) 4 (upd (upd (upd (upd (m.2.2 0) (106 + 4 * N + 0) a) (106 + 4 * N + 1) c) (106 + 4 * N + 2) f) (106 + 4 * N + 3) g 4 + 1))
              rw [← hG, ← hF]
              have FN : ∀ q, q ≠ 4 → q < 106 + 4 * N ∨ 106 + 4 * N + 4 ≤ q → F q = m.2.2 0 q := fun q q1 q2 => by
                rw [hF, upd_ne _ _ (by omega), hG, upd_ne _ _ (by omega), upd_ne _ _ (by omega), upd_ne _ _ (by omega), upd_ne _ _ (by omega)]
              have F4 : F 4 = nI (N + 1) := by
                rw [hF, upd_eq, hG, upd_ne _ _ (by omega), upd_ne _ _ (by omega), upd_ne _ _ (by omega), upd_ne _ _ (by omega), h.eN, nI_1]
              have F0 : F (106 + 4 * N + 0) = a := by
                rw [hF, upd_ne _ _ (by omega), hG, upd_ne _ _ (by omega), upd_ne _ _ (by omega), upd_ne _ _ (by omega), upd_eq]
              have F1 : F (106 + 4 * N + 1) = c := by
                rw [hF, upd_ne _ _ (by omega), hG, upd_ne _ _ (by omega), upd_ne _ _ (by omega), upd_eq]
              have F2 : F (106 + 4 * N + 2) = f := by
                rw [hF, upd_ne _ _ (by omega), hG, upd_ne _ _ (by omega), upd_eq]
              have F3 : F (106 + 4 * N + 3) = g := by
                rw [hF, upd_ne _ _ (by omega), hG, upd_eq]
              refine h.parts (fun q q1 q2 q3 => FN q q3 (by omega)) ((FN 3 (by omega) (by omega)).trans h.eW) F4 (by omega) (by omega) (fun i hi => okWall_same (h.wall hi) (fun k hk => FN _ (by omega) (by omega))) ?_ rfl rfl rfl rfl rfl rfl h.b5 rfl rfl rfl ?_ ?_
              · intro i hi
                by_cases e : i = N
                · subst e
                  unfold okScr
                  rw [F0, F1, F2, F3]
                  have hr := (in_iff _ _ _).mp ha
                  have r1 : 0 ≤ a.toInt := hr.1
                  have r2 : a.toInt ≤ 1 := hr.2
                  refine ⟨?_, (in_iff _ _ _).mp hc, (in_iff _ _ _).mp hf, (in_iff _ _ _).mp hg, (fa_lt _ _).mp hfg⟩
                  by_cases e0 : a.toInt = 0
                  · exact Or.inl (Int32.toInt_inj.mp e0)
                  · exact Or.inr (Int32.toInt_inj.mp (show a.toInt = 1 by omega))
                · exact okScr_same (h.scr (show i < N by omega)) (fun k hk => FN _ (by omega) (by omega))
              · intro i hi k hk
                rw [FN _ (by omega) (by omega)]
                exact h.wallR hi hk
              · intro i hi k hk
                show upd _ _ _ _ = _
                by_cases e : i = N
                · subst e
                  have hc : k = 0 ∨ k = 1 ∨ k = 2 ∨ k = 3 := by omega
                  rcases hc with rfl | rfl | rfl | rfl
                  · rw [F0, upd_ne _ _ (by omega), upd_ne _ _ (by omega), upd_ne _ _ (by omega), upd_eq]
                  · rw [F1, upd_ne _ _ (by omega), upd_ne _ _ (by omega), upd_eq]
                  · rw [F2, upd_ne _ _ (by omega), upd_eq]
                  · rw [F3, upd_eq]
                · rw [upd_ne _ _ (by omega), upd_ne _ _ (by omega), upd_ne _ _ (by omega), upd_ne _ _ (by omega), FN _ (by omega) (by omega)]
                  unfold noneRow
                  rw [if_neg (by omega)]
                  exact h.scrR (by omega) hk
          · simp only [if_pos ha, if_pos hc, if_pos hf, if_pos hg, if_neg hfg]
            exact ⟨trivial, Or.inl ⟨by simp, by simp⟩⟩
        · simp only [if_pos ha, if_pos hc, if_pos hf, if_neg hg]
          exact ⟨trivial, Or.inl ⟨by simp, by simp⟩⟩
      · simp only [if_pos ha, if_pos hc, if_neg hf]
        exact ⟨trivial, Or.inl ⟨by simp, by simp⟩⟩
    · simp only [if_pos ha, if_neg hc]
      exact ⟨trivial, Or.inl ⟨by simp, by simp⟩⟩
  · simp only [if_neg ha]
    exact ⟨trivial, Or.inl ⟨by simp, by simp⟩⟩
/-- settings -/
theorem isSet_ix {w v : Int32} (h : pX12_isSetting w v = true) : ∃ k : Nat, k < 7 ∧ w = nI k := by
  unfold pX12_isSetting at h
  by_cases e0 : w = 0
  · exact ⟨0, by omega, e0⟩
  by_cases e1 : w = 1
  · exact ⟨1, by omega, e1⟩
  by_cases e2 : w = 2
  · exact ⟨2, by omega, e2⟩
  by_cases e3 : w = 3
  · exact ⟨3, by omega, e3⟩
  by_cases e4 : w = 4
  · exact ⟨4, by omega, e4⟩
  by_cases e5 : w = 5
  · exact ⟨5, by omega, e5⟩
  by_cases e6 : w = 6
  · exact ⟨6, by omega, e6⟩
  · rw [if_neg e0, if_neg e1, if_neg e2, if_neg e3, if_neg e4, if_neg e5, if_neg e6] at h
    exact absurd h (by decide)
theorem BR.setting (h : BR C R M W N b S) {k : Nat} (hk : k < 7) {x : Int32} (hx : pX12_isSetting (nI k) x = true) : BR C R M W N (bst b 3 (nI 7, upd (b.2 3) (k * 1 + 0) x)) (upd S (7 + k) x) := by
  have hl := h.le
  have hs := h.set
  refine h.chg (fun k hk => upd_ne _ _ (by omega)) ?_ (fun i hi => okMic_same (h.mic hi) (fun k hk => upd_ne _ _ (by omega))) (fun q hq => upd_ne _ _ (by omega)) rfl rfl rfl rfl rfl h.b7.symm ?_ ?_ (fun i hi => micR_same (i := i) (h.mR hi) (fun k hk => rfl) (fun k hk => upd_ne _ _ (by omega))) rfl rfl ?_
  · unfold okSet at hs ⊢
    obtain ⟨s6, s7, s8, s9, s10, s11, s12, s13⟩ := hs
    rw [upd_ne (j := 6) _ _ (by omega)]
    have hc : k = 0 ∨ k = 1 ∨ k = 2 ∨ k = 3 ∨ k = 4 ∨ k = 5 ∨ k = 6 := by omega
    rcases hc with rfl | rfl | rfl | rfl | rfl | rfl | rfl
    · have hr := (in_iff _ _ _).mp (show pX12_in x 100 1000 = true from hx)
      simp only [upd, Nat.reduceAdd, Nat.reduceEqDiff, if_true, if_false]
      exact ⟨s6, hr, s8, s9, s10, s11, s12, s13⟩
    · have hr := (in_iff _ _ _).mp (show pX12_in x 1 2 = true from hx)
      simp only [upd, Nat.reduceAdd, Nat.reduceEqDiff, if_true, if_false]
      exact ⟨s6, s7, hr, s9, s10, s11, s12, s13⟩
    · have hr := (in_iff _ _ _).mp (show pX12_in x 0 100 = true from hx)
      simp only [upd, Nat.reduceAdd, Nat.reduceEqDiff, if_true, if_false]
      exact ⟨s6, s7, s8, hr, s10, s11, s12, s13⟩
    · have hr := (in_iff _ _ _).mp (show pX12_in x 0 50 = true from hx)
      simp only [upd, Nat.reduceAdd, Nat.reduceEqDiff, if_true, if_false]
      exact ⟨s6, s7, s8, s9, hr, s11, s12, s13⟩
    · have hr := (in_iff _ _ _).mp (show pX12_in x 0 1000 = true from hx)
      simp only [upd, Nat.reduceAdd, Nat.reduceEqDiff, if_true, if_false]
      exact ⟨s6, s7, s8, s9, s10, hr, s12, s13⟩
    · have hr := (in_iff _ _ _).mp (show pX12_in x 0 1 = true from hx)
      simp only [upd, Nat.reduceAdd, Nat.reduceEqDiff, if_true, if_false]
      exact ⟨s6, s7, s8, s9, s10, s11, hr, s13⟩
    · have hr := (in_iff _ _ _).mp (show pX12_in x 0 500 = true from hx)
      simp only [upd, Nat.reduceAdd, Nat.reduceEqDiff, if_true, if_false]
      exact ⟨s6, s7, s8, s9, s10, s11, s12, hr⟩
  · rw [upd_ne _ _ (by omega)]
    exact h.b2
  · rw [upd_ne _ _ (by omega)]
    exact h.b3
  · intro j hj
    show upd _ _ _ _ = _
    by_cases e : j = k
    · subst e; rw [upd_eq, upd_eq]
    · rw [upd_ne _ _ (by omega), upd_ne _ _ (by omega)]
      exact h.setR hj
theorem set_eq (h : BR C R M W N b (m.2.2 0)) (w v ρ : Int32) (hρ : ρ = if pX12_isSetting w v = true then 0 else 2) : stepR m ρ (pX2_changeSetting b w v) (kX2_changeSetting b w v) (pX12_sets m w v) (kX12_sets m w v) := by
  subst hρ
  unfold stepR pX12_sets kX12_sets
  by_cases hx : pX12_isSetting w v = true
  · obtain ⟨k, hk, ew⟩ := isSet_ix hx
    subst ew
    obtain ⟨s1, s2⟩ := setting_eq (i := k) (ii := nI k) h rfl hk
    have p := put_in (cap := 7) (len := 7) (c := 7) (w := 1) (i := k) (k := 0) (f := b.2 3) (ii := nI k) (kk := 0) (wid := 1) (x := v) rfl rfl rfl hk (by omega) (by omega) (by omega) (by omega) (by omega)
    simp only [if_pos hx, lt, show (7 : Int32) + nI k = nI (7 + k) from nI_add 7 k, nI_clamp (show 7 + k < 2 ^ 31 by omega), msi_3]
    have V : vp_in (nI (7 + k)) 122 := vp_in_n (by omega) (by omega)
    unfold pX2_changeSetting kX2_changeSetting
    simp only [lt]
    rw [h.b7, s1, p.1]
    exact ⟨⟨V, V⟩, Or.inr ⟨trivial, ⟨s2, p.2⟩, rfl, (show upd m.1 5 _ 5 = _ from upd_eq _ _ _), ⟨rfl, rfl, rfl, rfl, rfl, rfl, rfl⟩, C, R, M, W, N, h.setting hk hx⟩⟩
  · simp only [if_neg hx]
    exact ⟨trivial, Or.inl ⟨by simp, by simp⟩⟩
theorem BR.clock (h : BR C R M W N b S) {i : Nat} (hi : i < M) {x : Int32} (hx : rg x (-500) 500) : BR C R M W N (bst b 0 (nI M, upd (b.2 0) (i * 9 + 2) x)) (upd S (14 + 10 * i + 2) x) := by
  refine h.row hi _ (fun q hq => upd_ne _ _ (by omega)) (fun q hq => upd_ne _ _ (by omega)) ?_ ⟨?_, ?_, ?_⟩
  · have hm := h.mic hi
    unfold okMic at hm ⊢
    rw [upd_eq, upd_ne _ _ (by omega), upd_ne _ _ (by omega), upd_ne _ _ (by omega), upd_ne _ _ (by omega), upd_ne _ _ (by omega)]
    exact ⟨hm.1, hm.2.1, hx, hm.2.2.2⟩
  · intro k hk
    show upd _ _ _ _ = _
    by_cases e : k = 2
    · subst e; rw [upd_eq, upd_eq]
    · rw [upd_ne _ _ (by omega), upd_ne _ _ (by omega)]
      exact (h.mR hi).1 k hk
  · intro h4
    rw [upd_ne _ _ (by omega)] at h4
    obtain ⟨g1, g2⟩ := (h.mR hi).2.1 h4
    refine ⟨?_, fun k hk => ?_⟩
    · show upd _ _ _ _ = _
      rw [upd_ne _ _ (by omega), upd_ne _ _ (by omega)]
      exact g1
    · show upd _ _ _ _ = _
      rw [upd_ne _ _ (by omega), upd_ne _ _ (by omega)]
      exact g2 k hk
  · intro h4 k hk
    rw [upd_ne _ _ (by omega)] at h4
    show upd _ _ _ _ = _
    rw [upd_ne _ _ (by omega)]
    exact (h.mR hi).2.2 h4 k hk
/-- clicks, with their refusals -/
theorem isPlace2 (x y : Int32) : pX11_isClickPlace x y = true ↔ pX12_isPlace x = true ∧ pX12_isPlace y = true := by
  unfold pX11_isClickPlace pX12_isPlace
  rw [in_eq, in_eq]
  by_cases h : pX12_in x (-1000) 3000 = true
  · by_cases g : pX12_in y (-1000) 3000 = true
    · simp [h, g]
    · simp [h, g]
  · simp [h]
theorem may_eq (h : BR C R M W N b (m.2.2 0)) (x y t : Int32) : pX2_refusalOfClick b x y t = pX12_mayClick m x y t ∧ (pX12_mayClick m x y t = 0 ∧ rg x (-1000) 3000 ∧ rg y (-1000) 3000 ∧ rg t 0 100000 ∧ 0 < M ∨ pX12_mayClick m x y t = 2 ∨ pX12_mayClick m x y t = 3) := by
  have hl := h.le
  have hp := isPlace2 x y
  unfold pX2_refusalOfClick pX12_mayClick
  rw [in_eq, h.b4, h.eM]
  by_cases hx : pX12_isPlace x = true
  · by_cases hy : pX12_isPlace y = true
    · rw [if_pos hx, if_pos hy, if_pos (hp.mpr ⟨hx, hy⟩)]
      by_cases ht : pX12_in t 0 100000 = true
      · simp only [if_pos ht]
        by_cases e : M = 0
        · subst e
          simp only [show nI 0 = 0 from rfl, if_true]
          exact ⟨trivial, Or.inr (Or.inr trivial)⟩
        · simp only [if_neg (nI_ne0 (n := M) (by omega) (by omega))]
          exact ⟨trivial, Or.inl ⟨trivial, (in_iff _ _ _).mp hx, (in_iff _ _ _).mp hy, (in_iff _ _ _).mp ht, by omega⟩⟩
      · simp only [if_neg ht]
        exact ⟨trivial, Or.inr (Or.inl trivial)⟩
    · rw [if_pos hx, if_neg hy, if_neg (fun e => hy (hp.mp e).2)]
      exact ⟨rfl, Or.inr (Or.inl rfl)⟩
  · rw [if_neg hx, if_neg (fun e => hx (hp.mp e).1)]
    exact ⟨rfl, Or.inr (Or.inl rfl)⟩
def stepC (m : MS) (ρ : Int32) (u : Int32 × TS × BS) (ku : Prop) (w : Int32 × MS) (kw : Prop) : Prop := kw ∧ ((ρ = 2 ∨ ρ = 3) ∧ w = (ρ, m) ∨ ρ = 0 ∧ ku ∧ actR m u.1 u.2.2 w)
theorem click_eq (h : BR C R M W N b (m.2.2 0)) (x y t : Int32) (ts : TS) : stepC m (pX2_refusalOfClick b x y t) (pX6_hearClick ts b x y t) (kX6_hearClick ts b x y t) (pX12_clicks m x y t) (kX12_clicks m x y t) := by
  obtain ⟨e, hc⟩ := may_eq h x y t
  unfold stepC pX12_clicks kX12_clicks
  rw [e]
  simp only [lt]
  rcases hc with ⟨e0, hx, hy, ht, -⟩ | e2 | e3
  · rw [e0]
    simp only [show ((0 : Int32) ≤ 0) from by decide, if_true]
    obtain ⟨⟨c, t', b', c1, c2, c3, c4, c5, c6⟩, k1, k2⟩ := click_L hx hy ht fu 0 (by omega) (by have := h.le; have := fu_ge; omega) b m ts h
    refine ⟨k2, Or.inr ⟨trivial, k1, c3, ?_, c6, ?_⟩⟩
    · unfold pX6_hearClick
      rw [show pX6_hearClick_L6 fu x y t 0 0 ts b = _ from c2]
      exact c4
    · unfold pX6_hearClick
      rw [show pX6_hearClick_L6 fu x y t 0 0 ts b = _ from c2]
      exact ⟨_, _, _, _, _, c5⟩
  · rw [e2]
    simp only [show ¬ ((2 : Int32) ≤ 0) from by decide, if_false]
    exact ⟨trivial, Or.inl ⟨by simp, trivial⟩⟩
  · rw [e3]
    simp only [show ¬ ((3 : Int32) ≤ 0) from by decide, if_false]
    exact ⟨trivial, Or.inl ⟨by simp, trivial⟩⟩
theorem known_eq (h : BR C R M W N b (m.2.2 0)) (x y t : Int32) (ts : TS) : stepC m (pX2_refusalOfClick b x y t) (pX6_hearKnownClick ts b x y t) (kX6_hearKnownClick ts b x y t) (pX12_calibrates m x y t) (kX12_calibrates m x y t) := by
  obtain ⟨e, hc⟩ := may_eq h x y t
  unfold stepC pX12_calibrates kX12_calibrates
  rw [e]
  simp only [lt]
  rcases hc with ⟨e0, hx, hy, ht, -⟩ | e2 | e3
  · rw [e0]
    simp only [show ((0 : Int32) ≤ 0) from by decide, if_true]
    obtain ⟨⟨c, t', b', c1, c2, c3, c4, c5, c6⟩, k1, k2⟩ := known_L hx hy ht fu 0 (by omega) (by have := h.le; have := fu_ge; omega) 0 b m ts (by omega) h
    refine ⟨k2, Or.inr ⟨trivial, k1, c3, ?_, c6, ?_⟩⟩
    · unfold pX6_hearKnownClick
      rw [show pX6_hearKnownClick_L12 fu x y t 0 0 ts b = _ from c2]
      exact c4
    · unfold pX6_hearKnownClick
      rw [show pX6_hearKnownClick_L12 fu x y t 0 0 ts b = _ from c2]
      exact ⟨_, _, _, _, _, c5⟩
  · rw [e2]
    simp only [show ¬ ((2 : Int32) ≤ 0) from by decide, if_false]
    exact ⟨trivial, Or.inl ⟨by simp, trivial⟩⟩
  · rw [e3]
    simp only [show ¬ ((3 : Int32) ≤ 0) from by decide, if_false]
    exact ⟨trivial, Or.inl ⟨by simp, trivial⟩⟩
end WALLS
