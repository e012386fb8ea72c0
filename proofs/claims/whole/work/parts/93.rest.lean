/-! PURE: operations: the middle, removals -/
section REST
variable {C R M W N : Nat} {b b' : BS} {S S' : Nat → Int32} {m m' : MS} {s9 : SS} {u : US} {x : TS} {kk : Int32}
theorem rcQ_b {C R c : Nat} (hC : 2 ≤ C ∧ C ≤ 20) (hR : R ≤ 20) (down : Bool) (hc : c < C * R) : rcQ C down c ≤ 19 := by
  unfold rcQ
  cases down with
  | true =>
    have : c / C < R := Nat.div_lt_of_lt_mul hc
    simp only [if_true]
    omega
  | false =>
    have := Nat.mod_lt c (show 0 < C by omega)
    simp only [Bool.false_eq_true, if_false]
    omega
theorem middle_op (h : SR b s9 u x kk m) (a1 : Bool) : ∃ (r : UInt64) (s' : SS), pX11_middle s9 b kk a1 = (r, s', b, kk) ∧ kX11_middle s9 b kk a1 ∧ kX12_middle m a1 ∧ SR b s' u x kk (pX12_middle m a1).2 ∧ r = (pX12_middle m a1).1 := by
  have hh := h
  obtain ⟨⟨C, R, M, W, N, h1, hv⟩, h2, h3, h4⟩ := hh
  have hl := h1.le
  have hCR : C * R ≤ 20 * 20 := Nat.mul_le_mul (by omega) (by omega)
  have hCR0 : 2 * 2 ≤ C * R := Nat.mul_le_mul (by omega) (by omega)
  obtain ⟨s', t1, t2, t3, t4, t5⟩ := take_all h1 hv
  have h1' : BR C R M W N b ((msi m 3 0).2.2 0) := h1
  obtain ⟨m1, f1, f2, f3, f4⟩ := find_all h1'
  have f1 : pX12_finds (msi m 3 0) (-1000000000) = (foundQ (m.2.2 0) (hasP (m.2.2 0)) M (C * R), m1) := f1
  have f3 : FV (m.2.2 0) (hasP (m.2.2 0)) M (C * R) m1 := f3
  have eS : m1.2.2 0 = m.2.2 0 := f4.eS
  have hb : BR C R M W N b (m1.2.2 0) := by rw [eS]; exact h1
  have kp : keeps m m1 := (keeps_i m 0 (k := 3) ⟨by decide, by decide, by decide, by decide⟩).trans f4.keeps
  have hSR : SR b s' u x kk m1 := SR.surv ⟨C, R, M, W, N, by rw [eS]; exact ⟨h1, t4⟩⟩ h kp
  unfold pX11_middle kX11_middle pX12_middle kX12_middle
  rw [t1]
  simp only [lt, f1, bd]
  by_cases e : tri (fa_cnt (hasP (m.2.2 0)) M) = 0
  · have ef : foundQ (m.2.2 0) (hasP (m.2.2 0)) M (C * R) = -1000000000 := by unfold foundQ; rw [if_pos e]
    rw [ef, (t3.2.2.1 e).2]
    simp only [if_true]
    exact ⟨_, s', rfl, ⟨t2, trivial⟩, ⟨f2, trivial⟩, hSR, rfl⟩
  · have hq : bestQ (m.2.2 0) (hasP (m.2.2 0)) M (C * R) < C * R := bestQ_lt (by omega)
    obtain ⟨p1, p2⟩ := tiedQ_pos (S := m.2.2 0) (P := hasP (m.2.2 0)) (M := M) (n' := C * R) (by omega)
    have ef : foundQ (m.2.2 0) (hasP (m.2.2 0)) M (C * R) = nI (bestQ (m.2.2 0) (hasP (m.2.2 0)) M (C * R)) := by unfold foundQ; rw [if_neg e]
    have sb := smQ_b2 (fun c => decide (vS (m.2.2 0) (hasP (m.2.2 0)) M c = vS (m.2.2 0) (hasP (m.2.2 0)) M (bestQ (m.2.2 0) (hasP (m.2.2 0)) M (C * R)))) (rcQ C a1) (n' := C * R) (fun c hc => rcQ_b hl.1 (by omega) a1 hc) (C * R) (Nat.le_refl _)
    obtain ⟨c1, c2⟩ := sum_c h1 t3 e a1 fu 0 (by omega) (by have := fu_ge; omega)
    obtain ⟨l1, l2⟩ := likes_eq (b := b) hb (by rw [eS]; exact f3) (s := s') (by rw [eS]; exact t3)
    rw [eS, ef, (t3.2.2.2 e).2] at l1
    rw [eS, ef] at l2
    have qn := quot_n64 (s := smQ (fun c => decide (vS (m.2.2 0) (hasP (m.2.2 0)) M c = vS (m.2.2 0) (hasP (m.2.2 0)) M (bestQ (m.2.2 0) (hasP (m.2.2 0)) M (C * R)))) (rcQ C a1) (C * R)) (t := tiedQ (m.2.2 0) (hasP (m.2.2 0)) M (C * R)) (by omega) (by omega) p1
    have sm := sum_m (b := b) (m := m1) hb (P := hasP (m.2.2 0)) (by rw [eS]; exact f3) a1 (by
      rw [eS]
      intro z hz
      refine ⟨l2, ?_⟩
      rw [l1, hz]
      exact qn) fu 0 (by omega) (by have := fu_ge; omega)
    rw [eS, l1] at sm
    have sm1 := sm.1
    have sm2 := sm.2
    rw [ef, (t3.2.2.2 e).2]
    simp only [if_neg (nI_nNO (j := bestQ (m.2.2 0) (hasP (m.2.2 0)) M (C * R)) (by omega)), if_neg (nI_ne0 p1 (show tiedQ (m.2.2 0) (hasP (m.2.2 0)) M (C * R) < 2 ^ 31 by omega))]
    have c1 : pX8_sumOfTied s' b a1 = nI (smQ (fun c => decide (vS (m.2.2 0) (hasP (m.2.2 0)) M c = vS (m.2.2 0) (hasP (m.2.2 0)) M (bestQ (m.2.2 0) (hasP (m.2.2 0)) M (C * R)))) (rcQ C a1) (C * R)) := c1
    have c2 : kX8_sumOfTied s' b a1 := c2
    have sm1 : pX12_middle_L27 fu a1 (nI (bestQ (m.2.2 0) (hasP (m.2.2 0)) M (C * R))) 0 0 m1 = _ := sm1
    rw [c1, sm1]
    exact ⟨_, s', rfl, ⟨t2, c2, qn⟩, ⟨f2, sm2⟩, hSR, rfl⟩
/-- removals -/
theorem remove_op (h : SR b s9 u x kk m) (a1 a2 : Int32) : ∃ (c : Nat) (r : Int32) (b' : BS) (s' : SS) (u' : US), pX11_remove b s9 u kk a1 a2 = (c, (r, (b', s', u', kk))) ∧ kX11_remove b s9 u kk a1 a2 ∧ kX12_remove m a1 a2 ∧ SR b' s' u' x kk (pX12_remove m a1 a2).2 ∧ (pX12_remove m a1 a2).2.1 3 = (if c = 0 then 0 else if c = 2 then 1 else 2) ∧ (c = 0 → r = (pX12_remove m a1 a2).1) ∧ c ≤ 3 := by
  have hh := h
  obtain ⟨⟨C, R, M, W, N, h1, hv⟩, h2, h3, h4⟩ := hh
  have hl := h1.le
  by_cases c1 : pX12_in a1 0 2 = true
  · obtain ⟨kd, k1, k2, ek⟩ := nI_of_rg (a := 0) (z := 2) ((in_iff _ _ _).mp c1)
    subst ek
    have hc : kd = 0 ∨ kd = 1 ∨ kd = 2 := by omega
    rcases hc with rfl | rfl | rfl
    · have T : pX2_tableOf b (nI 0) = 0 := rfl
      unfold pX11_remove kX11_remove
      rw [in_eq, c1, range_t, xb_yes, T, if_pos rfl, if_pos rfl, h1.b4, has_eq (by omega)]
      rcases rem_in (m := m) (kd := 0) (n := M) (w := 10) (st := 14) (idx := a2) (by omega) h1.eM (by omega) rfl rfl (by omega) (by omega) (by omega) with ⟨r1, r2, r3⟩ | ⟨i, A, F, hi, ei, r2, r3, r4, r5, r6, r7⟩
      · rw [decide_eq_false r1, there_f, xb_no _ _ (by decide), r2]
        exact ⟨1, 0, b, s9, u, rfl, xk_yes (xk_no _ (by decide)), r3, h.i3 _, i3_3 _ _, fun h0 => absurd h0 (by decide), by decide⟩
      · subst ei
        have hn := nI_toInt (n := i) (by omega)
        rw [decide_eq_true (show 0 ≤ (nI i).toInt ∧ (nI i).toInt < M by omega), there_t, xb_yes]
        obtain ⟨d1, d2⟩ := drop_eq (cap := 8) (wid := 9) (ii := nI i) (c := M) (w := 9) (i := i) (len := 72) (f := b.2 0) rfl rfl hi (by omega) (by omega) (by omega) (by omega)
        have hn := h1.rem0 hi (F := F) r5 (fun q q1 q2 => r6 q q1 (by omega)) (fun q q1 q2 => r7 q q1 q2)
        obtain ⟨u', m', e1, e2, e3, e4, e5, e6⟩ := und_1 h (ub := (nI (M - 1), bst b 0 (nI (M - 1), va_cpy (b.2 0) (b.2 0) ((i + 1) * 9) (i * 9) ((M - i - 1) * 9)))) (wm := msa (msa m 2 A) 0 F) r4 ⟨rfl, rfl, rfl, rfl, rfl, rfl, rfl⟩ ⟨C, R, M - 1, W, N, hn⟩
        obtain ⟨u2, g1, g2, g3⟩ := save_eq (s9 := s9) (kk := kk) ⟨u', e1, e2⟩
        have eu : u2 = u' := by rw [g1] at e1; exact (Prod.mk.inj e1).1
        subst eu
        rw [g2, r2]
        simp only [lt]
        rw [h1.b4, d1]
        have e3 : pX12_ends (msa (msa m 2 A) 0 F) (nI (M - 1)) = (nI (M - 1), m') := e3
        rw [e3]
        exact ⟨0, _, _, _, _, rfl, xk_yes (xk_yes ⟨g3, d2⟩), r3 e4, e6, e5, fun _ => rfl, by decide⟩
    · have T : pX2_tableOf b (nI 1) = 1 := rfl
      unfold pX11_remove kX11_remove
      rw [in_eq, c1, range_t, xb_yes, T]
      simp only [if_neg (show ¬ (1 : Nat) = 0 by decide), if_true]
      rw [h1.b5, has_eq (by omega)]
      rcases rem_in (m := m) (kd := 1) (n := W) (w := 3) (st := 94) (idx := a2) (by omega) h1.eW (by omega) rfl rfl (by omega) (by omega) (by omega) with ⟨r1, r2, r3⟩ | ⟨i, A, F, hi, ei, r2, r3, r4, r5, r6, r7⟩
      · rw [decide_eq_false r1, there_f, xb_no _ _ (by decide), r2]
        exact ⟨1, 0, b, s9, u, rfl, xk_yes (xk_no _ (by decide)), r3, h.i3 _, i3_3 _ _, fun h0 => absurd h0 (by decide), by decide⟩
      · subst ei
        have hn := nI_toInt (n := i) (by omega)
        rw [decide_eq_true (show 0 ≤ (nI i).toInt ∧ (nI i).toInt < W by omega), there_t, xb_yes]
        obtain ⟨d1, d2⟩ := drop_eq (cap := 4) (wid := 3) (ii := nI i) (c := W) (w := 3) (i := i) (len := 12) (f := b.2 1) rfl rfl hi (by omega) (by omega) (by omega) (by omega)
        have hn := h1.rem1 hi (F := F) r5 (fun q q1 q2 => r6 q q1 (by omega)) (fun q q1 q2 => r7 q q1 q2)
        obtain ⟨u', m', e1, e2, e3, e4, e5, e6⟩ := und_1 h (ub := (nI (W - 1), bst b 1 (nI (W - 1), va_cpy (b.2 1) (b.2 1) ((i + 1) * 3) (i * 3) ((W - i - 1) * 3)))) (wm := msa (msa m 2 A) 0 F) r4 ⟨rfl, rfl, rfl, rfl, rfl, rfl, rfl⟩ ⟨C, R, M, W - 1, N, hn⟩
        obtain ⟨u2, g1, g2, g3⟩ := save_eq (s9 := s9) (kk := kk) ⟨u', e1, e2⟩
        have eu : u2 = u' := by rw [g1] at e1; exact (Prod.mk.inj e1).1
        subst eu
        rw [g2, r2]
        simp only [lt]
        rw [h1.b5, d1]
        have e3 : pX12_ends (msa (msa m 2 A) 0 F) (nI (W - 1)) = (nI (W - 1), m') := e3
        rw [e3]
        exact ⟨0, _, _, _, _, rfl, xk_yes (xk_yes ⟨g3, d2⟩), r3 e4, e6, e5, fun _ => rfl, by decide⟩
    · have T : pX2_tableOf b (nI 2) = 2 := rfl
      unfold pX11_remove kX11_remove
      rw [in_eq, c1, range_t, xb_yes, T]
      simp only [if_neg (show ¬ (2 : Nat) = 0 by decide), if_neg (show ¬ (2 : Nat) = 1 by decide), if_true]
      rw [h1.b6, has_eq (by omega)]
      rcases rem_in (m := m) (kd := 2) (n := N) (w := 4) (st := 106) (idx := a2) (by omega) h1.eN (by omega) rfl rfl (by omega) (by omega) (by omega) with ⟨r1, r2, r3⟩ | ⟨i, A, F, hi, ei, r2, r3, r4, r5, r6, r7⟩
      · rw [decide_eq_false r1, there_f, xb_no _ _ (by decide), r2]
        exact ⟨1, 0, b, s9, u, rfl, xk_yes (xk_no _ (by decide)), r3, h.i3 _, i3_3 _ _, fun h0 => absurd h0 (by decide), by decide⟩
      · subst ei
        have hn := nI_toInt (n := i) (by omega)
        rw [decide_eq_true (show 0 ≤ (nI i).toInt ∧ (nI i).toInt < N by omega), there_t, xb_yes]
        obtain ⟨d1, d2⟩ := drop_eq (cap := 4) (wid := 4) (ii := nI i) (c := N) (w := 4) (i := i) (len := 16) (f := b.2 2) rfl rfl hi (by omega) (by omega) (by omega) (by omega)
        have hn := h1.rem2 hi (F := F) r5 (fun q q1 q2 => r6 q q1 (by omega)) (fun q q1 q2 => r7 q q1 q2)
        obtain ⟨u', m', e1, e2, e3, e4, e5, e6⟩ := und_1 h (ub := (nI (N - 1), bst b 2 (nI (N - 1), va_cpy (b.2 2) (b.2 2) ((i + 1) * 4) (i * 4) ((N - i - 1) * 4)))) (wm := msa (msa m 2 A) 0 F) r4 ⟨rfl, rfl, rfl, rfl, rfl, rfl, rfl⟩ ⟨C, R, M, W, N - 1, hn⟩
        obtain ⟨u2, g1, g2, g3⟩ := save_eq (s9 := s9) (kk := kk) ⟨u', e1, e2⟩
        have eu : u2 = u' := by rw [g1] at e1; exact (Prod.mk.inj e1).1
        subst eu
        rw [g2, r2]
        simp only [lt]
        rw [h1.b6, d1]
        have e3 : pX12_ends (msa (msa m 2 A) 0 F) (nI (N - 1)) = (nI (N - 1), m') := e3
        rw [e3]
        exact ⟨0, _, _, _, _, rfl, xk_yes (xk_yes ⟨g3, d2⟩), r3 e4, e6, e5, fun _ => rfl, by decide⟩
  · unfold pX11_remove kX11_remove pX12_remove kX12_remove pX12_fails
    rw [in_eq, bool_no c1, range_f, xb_no _ _ (by decide)]
    simp only [Bool.false_eq_true, if_false]
    exact ⟨2, 0, b, s9, u, rfl, xk_no _ (by decide), trivial, h.i3 _, i3_3 _ _, fun h0 => absurd h0 (by decide), by decide⟩
end REST
