/-! PURE: the operations of the two objects: what asks -/
section ASKS
variable {C R M W N : Nat} {b b' : BS} {S S' : Nat → Int32} {m m' : MS} {s9 : SS} {u : US} {x : TS} {kk : Int32}
theorem noteV (h : BR C R M W N b (m.2.2 0)) {i : Nat} (hi : i < M) : pX9_at 8 9 72 (b.1 4, b.2 0) (nI i) 4 = pX12_noteOf m (nI i) ∧ kX9_at 8 9 72 (b.1 4, b.2 0) (nI i) 4 ∧ kX12_noteOf m (nI i) := by
  have hl := h.le
  obtain ⟨e1, e2⟩ := at9 (k := 4) (kk := 4) h rfl hi (by omega)
  obtain ⟨o1, o2⟩ := of_eq (m := m) (i := i) (k := 4) (kk := 4) rfl (by omega) (by omega)
  obtain ⟨o3, o4⟩ := of_eq (m := m) (i := i) (k := 5) (kk := 5) rfl (by omega) (by omega)
  obtain ⟨-, h2, h3⟩ := h.mR hi
  unfold pX12_noteOf kX12_noteOf
  rw [e1, o1, o3]
  by_cases c : m.2.2 0 (14 + 10 * i + 4) = 1
  · rw [if_pos c, if_pos c]
    exact ⟨(h2 c).1, e2, o2, o4⟩
  · rw [if_neg c, if_neg c]
    exact ⟨h3 c 0 (by omega), e2, o2, trivial⟩
theorem heardV (h : BR C R M W N b (m.2.2 0)) {i k : Nat} (hi : i < M) (hk : k < 4) : pX9_at 8 9 72 (b.1 4, b.2 0) (nI i) (nI (5 + k)) = pX12_heardOf m (nI i) (nI k) ∧ kX9_at 8 9 72 (b.1 4, b.2 0) (nI i) (nI (5 + k)) ∧ kX12_heardOf m (nI i) (nI k) := by
  have hl := h.le
  obtain ⟨e1, e2⟩ := at9 (k := 5 + k) (kk := nI (5 + k)) h rfl hi (by omega)
  obtain ⟨o1, o2⟩ := of_eq (m := m) (i := i) (k := 4) (kk := 4) rfl (by omega) (by omega)
  obtain ⟨o3, o4⟩ := of_eq (m := m) (i := i) (k := 6 + k) (kk := 6 + nI k) (nI_add 6 k) (by omega) (by omega)
  obtain ⟨-, h2, h3⟩ := h.mR hi
  unfold pX12_heardOf kX12_heardOf
  rw [e1, o1, o3]
  by_cases c : m.2.2 0 (14 + 10 * i + 4) = 1
  · rw [if_pos c, if_pos c]
    exact ⟨(h2 c).2 k hk, e2, o2, o4⟩
  · rw [if_neg c, if_neg c]
    have e := h3 c (k + 1) (by omega)
    rw [show 4 + (k + 1) = 5 + k by omega] at e
    exact ⟨e, e2, o2, trivial⟩
theorem note_op (h : SR b s9 u x kk m) (a1 : Int32) : ∃ (c : Nat) (r : Int32), pX11_note b kk a1 = (c, (r, (b, kk))) ∧ kX11_note b kk a1 ∧ kX12_note m a1 ∧ SR b s9 u x kk (pX12_note m a1).2 ∧ endR mpB c r (pX12_note m a1) ∧ c ≤ 3 := by
  have hh := h
  obtain ⟨⟨C, R, M, W, N, h1, hv⟩, h2, h3, h4⟩ := hh
  obtain ⟨p1, p2⟩ := hasM h1 a1
  unfold pX11_note kX11_note pX12_note kX12_note pX12_fails pX12_tells
  rw [p1]
  by_cases c1 : pX12_isMicrophone m a1 = true
  · rw [if_pos c1, if_pos c1, c1, there_t, xb_yes]
    obtain ⟨i, hi, ei⟩ := p2 c1
    subst ei
    obtain ⟨v1, v2, v3⟩ := noteV h1 hi
    rw [v1]
    exact ⟨0, _, rfl, xk_yes v2, v3, h.i3 _, ⟨i3_3 _ _, fun _ => rfl⟩, by decide⟩
  · rw [if_neg c1, if_neg c1, bool_no c1, there_f, xb_no _ _ (by decide)]
    exact ⟨1, 0, rfl, xk_no _ (by decide), trivial, h.i3 _, ⟨i3_3 _ _, fun h0 => absurd h0 (by decide)⟩, by decide⟩
theorem heard_op (h : SR b s9 u x kk m) (a1 a2 : Int32) : ∃ (c : Nat) (r : Int32), pX11_heard b kk a1 a2 = (c, (r, (b, kk))) ∧ kX11_heard b kk a1 a2 ∧ kX12_heard m a1 a2 ∧ SR b s9 u x kk (pX12_heard m a1 a2).2 ∧ endR mpB c r (pX12_heard m a1 a2) ∧ c ≤ 3 := by
  have hh := h
  obtain ⟨⟨C, R, M, W, N, h1, hv⟩, h2, h3, h4⟩ := hh
  obtain ⟨p1, p2⟩ := hasM h1 a1
  unfold pX11_heard kX11_heard pX12_heard kX12_heard pX12_fails pX12_tells
  rw [p1, in_eq]
  by_cases c1 : pX12_isMicrophone m a1 = true
  · rw [if_pos c1, if_pos c1, c1, there_t, xb_yes]
    by_cases c2 : pX12_in a2 0 3 = true
    · rw [if_pos c2, if_pos c2, c2, range_t, xb_yes]
      obtain ⟨i, hi, ei⟩ := p2 c1
      obtain ⟨k, k1, k2, ek⟩ := nI_of_rg (a := 0) (z := 3) ((in_iff _ _ _).mp c2)
      subst ei ek
      obtain ⟨v1, v2, v3⟩ := heardV h1 hi (show k < 4 by omega)
      rw [show (5 : Int32) + nI k = nI (5 + k) from nI_add 5 k, v1]
      exact ⟨0, _, rfl, xk_yes (xk_yes v2), v3, h.i3 _, ⟨i3_3 _ _, fun _ => rfl⟩, by decide⟩
    · rw [if_neg c2, if_neg c2, bool_no c2, range_f, xb_no _ _ (by decide)]
      exact ⟨2, 0, rfl, xk_yes (xk_no _ (by decide)), trivial, h.i3 _, ⟨i3_3 _ _, fun h0 => absurd h0 (by decide)⟩, by decide⟩
  · rw [if_neg c1, if_neg c1, bool_no c1, there_f, xb_no _ _ (by decide)]
    exact ⟨1, 0, rfl, xk_no _ (by decide), trivial, h.i3 _, ⟨i3_3 _ _, fun h0 => absurd h0 (by decide)⟩, by decide⟩
theorem place_no {a1 a2 : Int32} (h : ¬ pX11_isClickPlace a1 a2 = true) : ¬ pX12_isPlace a1 = true ∨ ¬ pX12_isPlace a2 = true := by
  by_cases c : pX12_isPlace a1 = true
  · exact Or.inr (fun e => h ((isPlace2 a1 a2).mpr ⟨c, e⟩))
  · exact Or.inl c
theorem arrivals_op (h : SR b s9 u x kk m) (tr : TS) (a1 a2 a3 : Int32) : ∃ (c : Nat) (r : Int32) (tr' : TS), pX11_arrivals tr b kk a1 a2 a3 = (c, (r, (tr', b, kk))) ∧ kX11_arrivals tr b kk a1 a2 a3 ∧ kX12_arrivals m a1 a2 a3 ∧ SR b s9 u x kk (pX12_arrivals m a1 a2 a3).2 ∧ endR mpB c r (pX12_arrivals m a1 a2 a3) ∧ c ≤ 3 := by
  have hh := h
  obtain ⟨⟨C, R, M, W, N, h1, hv⟩, h2, h3, h4⟩ := hh
  obtain ⟨p1, p2⟩ := hasM h1 a3
  unfold pX11_arrivals kX11_arrivals pX12_arrivals kX12_arrivals pX12_arrivals_L28 pX12_fails pX12_tells
  rw [p1]
  by_cases c1 : pX12_isMicrophone m a3 = true
  · rw [if_pos c1, if_pos c1, c1, there_t, xb_yes]
    by_cases c2 : pX11_isClickPlace a1 a2 = true
    · obtain ⟨d1, d2⟩ := (isPlace2 a1 a2).mp c2
      rw [if_pos d1, if_pos d1, if_pos d2, if_pos d2, c2, range_t, xb_yes]
      obtain ⟨i, hi, ei⟩ := p2 c1
      subst ei
      obtain ⟨⟨L, t', e1, hA, hk, hS⟩, k1, k2⟩ := collect_eq h1 hi ((in_iff _ _ _).mp d1) ((in_iff _ _ _).mp d2) tr
      rw [e1]
      simp only [lt, bd]
      exact ⟨0, _, t', rfl, xk_yes (xk_yes k1), k2, (h.same hk hS).i3 _, ⟨i3_3 _ _, fun _ => hA.1.trans hA.2.1.symm⟩, by decide⟩
    · rw [bool_no c2, range_f, xb_no _ _ (by decide)]
      rcases place_no c2 with d | d
      · rw [if_neg d, if_neg d]
        exact ⟨2, 0, tr, rfl, xk_yes (xk_no _ (by decide)), trivial, h.i3 _, ⟨i3_3 _ _, fun h0 => absurd h0 (by decide)⟩, by decide⟩
      · simp only [if_neg d, ite_self]
        exact ⟨2, 0, tr, rfl, xk_yes (xk_no _ (by decide)), trivial, h.i3 _, ⟨i3_3 _ _, fun h0 => absurd h0 (by decide)⟩, by decide⟩
  · rw [if_neg c1, if_neg c1, bool_no c1, there_f, xb_no _ _ (by decide)]
    exact ⟨1, 0, tr, rfl, xk_no _ (by decide), trivial, h.i3 _, ⟨i3_3 _ _, fun h0 => absurd h0 (by decide)⟩, by decide⟩
theorem listedV (h : BR C R M W N b (m.2.2 0)) {L k w : Nat} {t : TS} (hA : RA (m.2.2 0 7) L t m) (hk : k < L) (hw : w < 4) : pX9_at 17 6 102 t (nI k) (nI w) = pX12_listedOf m (nI k) (nI w) ∧ kX9_at 17 6 102 t (nI k) (nI w) ∧ kX12_listedOf m (nI k) (nI w) := by
  obtain ⟨A1, A2, A3, A4⟩ := hA
  obtain ⟨K, wy, T, s, K1, w1, T1, s1, r0, c0, r1, c1, r2, c2, r3, c3, r4, r5⟩ := A4 k hk
  obtain ⟨e1, e2⟩ := at6 (c := w) (cc := nI w) A1 A3 hk rfl (by omega)
  have V : vp_in (nI k) 17 := vp_in_n (by omega) (by omega)
  have ck : (nI k).toNatClampNeg = k := nI_clamp (by omega)
  have tk : kX12_timeOf m (nI wy) := (time_eq h w1).elim (fun _ q => q.2.2.2.2)
  have te : pX12_timeOf m (nI wy) = nI T := c2
  rw [e1]
  have hc : w = 0 ∨ w = 1 ∨ w = 2 ∨ w = 3 := by omega
  rcases hc with rfl | rfl | rfl | rfl
  · refine ⟨?_, e2, V⟩
    show _ = m.2.2 4 (nI k).toNatClampNeg
    rw [ck, r0, c0]
  · refine ⟨?_, e2, V⟩
    show _ = m.2.2 5 (nI k).toNatClampNeg
    rw [ck, r1, c1]
  · refine ⟨?_, e2, V, ?_⟩
    · show _ = pX12_timeOf m (m.2.2 5 (nI k).toNatClampNeg)
      rw [ck, c1, te, r2]
    · rw [ck, c1]; exact tk
  · refine ⟨?_, e2, V⟩
    show _ = m.2.2 6 (nI k).toNatClampNeg
    rw [ck, r3, c3]
theorem arrival_op (h : SR b s9 u x kk m) (tr : TS) (a1 a2 a3 a4 a5 : Int32) : ∃ (c : Nat) (r : Int32) (tr' : TS), pX11_arrival tr b kk a1 a2 a3 a4 a5 = (c, (r, (tr', b, kk))) ∧ kX11_arrival tr b kk a1 a2 a3 a4 a5 ∧ kX12_arrival m a1 a2 a3 a4 a5 ∧ SR b s9 u x kk (pX12_arrival m a1 a2 a3 a4 a5).2 ∧ endR mpB c r (pX12_arrival m a1 a2 a3 a4 a5) ∧ c ≤ 3 := by
  have hh := h
  obtain ⟨⟨C, R, M, W, N, h1, hv⟩, h2, h3, h4⟩ := hh
  obtain ⟨p1, p2⟩ := hasM h1 a3
  have no : ∀ (c : Nat) (hc : c = 2), (c, (0, (tr, b, kk))) = (c, ((0 : Int32), (tr, b, kk))) := fun _ _ => rfl
  unfold pX11_arrival kX11_arrival pX11_arrival_L41 kX11_arrival_L41 pX11_arrival_L42 kX11_arrival_L42 pX12_arrival kX12_arrival pX12_arrival_L43 pX12_arrival_L79 pX12_fails pX12_tells
  rw [p1, range_t, range_f, in_eq]
  by_cases c1 : pX12_isMicrophone m a3 = true
  · rw [if_pos c1, if_pos c1, c1, there_t, xb_yes]
    by_cases c2 : pX11_isClickPlace a1 a2 = true
    · obtain ⟨d1, d2⟩ := (isPlace2 a1 a2).mp c2
      rw [if_pos d1, if_pos d1, if_pos d2, if_pos d2, if_pos c2, if_pos c2]
      by_cases c3 : a4 < 0
      · rw [if_pos c3, if_pos c3, if_pos c3, if_pos c3, xb_no _ _ (by decide)]
        exact ⟨2, 0, tr, rfl, xk_yes (xk_no _ (by decide)), trivial, h.i3 _, ⟨i3_3 _ _, fun h0 => absurd h0 (by decide)⟩, by decide⟩
      · rw [if_neg c3, if_neg c3, if_neg c3, if_neg c3]
        by_cases c4 : pX12_in a5 0 3 = true
        · rw [if_pos c4, if_pos c4, if_pos c4, if_pos c4, xb_yes]
          obtain ⟨i, hi, ei⟩ := p2 c1
          obtain ⟨w, w1, w2, ew⟩ := nI_of_rg (a := 0) (z := 3) ((in_iff _ _ _).mp c4)
          subst ei ew
          obtain ⟨k, hk31, ek⟩ := nI_of c3
          subst ek
          obtain ⟨⟨L, t', e1, hA, hk, hS⟩, k1, k2⟩ := collect_eq h1 hi ((in_iff _ _ _).mp d1) ((in_iff _ _ _).mp d2) tr
          rw [e1]
          simp only [lt, bd]
          rw [hA.2.1]
          have hL17 := hA.2.2.1
          by_cases c5 : k < L
          · rw [if_neg (nI_ge c5 (by omega)), if_neg (nI_ge c5 (by omega))]
            have hb : BR C R M W N b ((pX12_lists m a1 a2 (nI i)).2.2 0) := by rw [hS]; exact h1
            obtain ⟨v1, v2, v3⟩ := listedV hb (by rw [hS]; exact hA) c5 (show w < 4 by omega)
            rw [v1]
            exact ⟨0, _, t', rfl, xk_yes (xk_yes ⟨k1, v2⟩), ⟨k2, v3⟩, (h.same hk hS).i3 _, ⟨i3_3 _ _, fun _ => rfl⟩, by decide⟩
          · rw [if_pos (nI_le (by omega) hk31), if_pos (nI_le (by omega) hk31)]
            obtain ⟨t1, t2⟩ := t'
            have ht1 : t1 = nI L := hA.1
            subst ht1
            obtain ⟨v1, v2⟩ := at_out (cap := 17) (wid := 6) (kk := nI w) (len := 102) (c := L) (i := k) (f := t2) rfl (by omega) hk31
            rw [v1]
            exact ⟨0, _, (nI L, t2), rfl, xk_yes (xk_yes ⟨k1, v2⟩), ⟨k2, trivial⟩, (h.same hk hS).i3 _, ⟨i3_3 _ _, fun _ => rfl⟩, by decide⟩
        · rw [if_neg c4, if_neg c4, if_neg c4, if_neg c4, xb_no _ _ (by decide)]
          exact ⟨2, 0, tr, rfl, xk_yes (xk_no _ (by decide)), trivial, h.i3 _, ⟨i3_3 _ _, fun h0 => absurd h0 (by decide)⟩, by decide⟩
    · rw [if_neg c2, if_neg c2, xb_no _ _ (by decide)]
      rcases place_no c2 with d | d
      · rw [if_neg d, if_neg d]
        exact ⟨2, 0, tr, rfl, xk_yes (xk_no _ (by decide)), trivial, h.i3 _, ⟨i3_3 _ _, fun h0 => absurd h0 (by decide)⟩, by decide⟩
      · simp only [if_neg d, ite_self]
        exact ⟨2, 0, tr, rfl, xk_yes (xk_no _ (by decide)), trivial, h.i3 _, ⟨i3_3 _ _, fun h0 => absurd h0 (by decide)⟩, by decide⟩
  · rw [if_neg c1, if_neg c1, bool_no c1, there_f, xb_no _ _ (by decide)]
    exact ⟨1, 0, tr, rfl, xk_no _ (by decide), trivial, h.i3 _, ⟨i3_3 _ _, fun h0 => absurd h0 (by decide)⟩, by decide⟩
theorem delay_op (h : SR b s9 u x kk m) (a1 a2 : Int32) : ∃ (c : Nat) (r : Int32), pX11_delay b kk a1 a2 = (c, (r, (b, kk))) ∧ kX11_delay b kk a1 a2 ∧ kX12_delay m a1 a2 ∧ SR b s9 u x kk (pX12_delay m a1 a2).2 ∧ endR mpB c r (pX12_delay m a1 a2) ∧ c ≤ 3 := by
  have hh := h
  obtain ⟨⟨C, R, M, W, N, h1, hv⟩, h2, h3, h4⟩ := hh
  have hl := h1.le
  obtain ⟨p1, p2⟩ := hasM h1 a1
  obtain ⟨p3, p4⟩ := hasM h1 a2
  unfold pX11_delay kX11_delay pX11_delay_L32 kX11_delay_L32 pX11_delay_L33 kX11_delay_L33 pX11_delay_L46 kX11_delay_L46 pX12_delay kX12_delay pX12_delay_L16 pX12_delay_L63 pX12_fails pX12_tells
  rw [p1, p3, range_t, range_f, there_t, there_f]
  simp only [xb_yes, xb_no _ _ (show (1 : Nat) ≠ 0 by decide), xb_no _ _ (show (2 : Nat) ≠ 0 by decide)]
  by_cases c1 : pX12_isMicrophone m a1 = true
  · by_cases c2 : pX12_isMicrophone m a2 = true
    · simp only [if_pos c1, if_pos c2]
      obtain ⟨i, hi, ei⟩ := p2 c1
      obtain ⟨j, hj, ej⟩ := p4 c2
      subst ei ej
      by_cases c3 : nI i = nI j
      · simp only [if_pos c3]
        exact ⟨2, 0, rfl, xk_yes (xk_no _ (by decide)), trivial, h.i3 _, ⟨i3_3 _ _, fun h0 => absurd h0 (by decide)⟩, by decide⟩
      · simp only [if_neg c3]
        obtain ⟨n1, n2⟩ := hasNoted_eq h1 hi
        obtain ⟨n3, n4⟩ := hasNoted_eq h1 hj
        obtain ⟨q1, q2⟩ := pair_eq (m := m) hi hj hl.2.2.1 (wo := -1000000000) (P := hasP (m.2.2 0)) (fun j hj => hasP_all (by omega))
        obtain ⟨o1, o2⟩ := of_eq (m := m) (i := i) (k := 5) (kk := 5) rfl (by omega) (by omega)
        obtain ⟨o3, o4⟩ := of_eq (m := m) (i := j) (k := 5) (kk := 5) rfl (by omega) (by omega)
        obtain ⟨e1, e2⟩ := at9 (k := 4) (kk := 4) h1 rfl hi (by omega)
        obtain ⟨e3, e4⟩ := at9 (k := 4) (kk := 4) h1 rfl hj (by omega)
        rw [n1, n3, q1, o1, o3, e1, e3]
        by_cases g1 : hasP (m.2.2 0) i = true
        · by_cases g2 : hasP (m.2.2 0) j = true
          · have r1 := ((h1.mR hi).2.1 (of_decide_eq_true g1)).1
            have r2 := ((h1.mR hj).2.1 (of_decide_eq_true g2)).1
            simp only [g1, g2, Bool.and_self, if_true, r1, r2]
            exact ⟨0, _, rfl, xk_yes (xk_yes ⟨n2, n4, e2, e4⟩), ⟨q2, o2, o4⟩, h.i3 _, ⟨i3_3 _ _, fun _ => rfl⟩, by decide⟩
          · simp only [g1, bool_no g2, Bool.and_false, if_true, Bool.false_eq_true, if_false]
            exact ⟨0, _, rfl, xk_yes (xk_yes ⟨n2, n4, trivial⟩), ⟨q2, trivial⟩, h.i3 _, ⟨i3_3 _ _, fun _ => rfl⟩, by decide⟩
        · simp only [bool_no g1, Bool.false_and, Bool.false_eq_true, if_false]
          exact ⟨0, _, rfl, xk_yes (xk_yes ⟨n2, trivial⟩), ⟨q2, trivial⟩, h.i3 _, ⟨i3_3 _ _, fun _ => rfl⟩, by decide⟩
    · simp only [if_pos c1, if_neg c2]
      exact ⟨1, 0, rfl, xk_no _ (by decide), trivial, h.i3 _, ⟨i3_3 _ _, fun h0 => absurd h0 (by decide)⟩, by decide⟩
  · simp only [if_neg c1]
    exact ⟨1, 0, rfl, xk_no _ (by decide), trivial, h.i3 _, ⟨i3_3 _ _, fun h0 => absurd h0 (by decide)⟩, by decide⟩
theorem expected_op (h : SR b s9 u x kk m) (a1 a2 a3 : Int32) : ∃ (c : Nat) (r : Int32), pX11_expected b kk a1 a2 a3 = (c, (r, (b, kk))) ∧ kX11_expected b kk a1 a2 a3 ∧ kX12_expected m a1 a2 a3 ∧ SR b s9 u x kk (pX12_expected m a1 a2 a3).2 ∧ endR mpB c r (pX12_expected m a1 a2 a3) ∧ c ≤ 3 := by
  have hh := h
  obtain ⟨⟨C, R, M, W, N, h1, hv⟩, h2, h3, h4⟩ := hh
  obtain ⟨p1, p2⟩ := hasC h1 a1
  obtain ⟨p3, p4⟩ := hasM h1 a2
  obtain ⟨p5, p6⟩ := hasM h1 a3
  unfold pX11_expected kX11_expected pX11_expected_L43 kX11_expected_L43 pX11_expected_L44 kX11_expected_L44 pX11_expected_L57 kX11_expected_L57 pX12_expected kX12_expected pX12_expected_L24 pX12_fails pX12_tells
  rw [p1, p3, p5, range_t, range_f, there_t, there_f]
  simp only [xb_yes, xb_no _ _ (show (1 : Nat) ≠ 0 by decide), xb_no _ _ (show (2 : Nat) ≠ 0 by decide)]
  by_cases c1 : pX12_isCell m a1 = true
  · by_cases c2 : pX12_isMicrophone m a2 = true
    · by_cases c3 : pX12_isMicrophone m a3 = true
      · simp only [if_pos c1, if_pos c2, if_pos c3]
        by_cases c4 : a2 = a3
        · simp only [if_pos c4]
          exact ⟨2, 0, rfl, xk_yes (xk_no _ (by decide)), trivial, h.i3 _, ⟨i3_3 _ _, fun h0 => absurd h0 (by decide)⟩, by decide⟩
        · simp only [if_neg c4]
          obtain ⟨c, hc, ec⟩ := p2 c1
          obtain ⟨i, hi, ei⟩ := p4 c2
          obtain ⟨j, hj, ej⟩ := p6 c3
          subst ec ei ej
          obtain ⟨T, T1, T2, T3, T4, T5⟩ := from_eq h1 hc hi
          obtain ⟨U, U1, U2, U3, U4, U5⟩ := from_eq h1 hc hj
          rw [T2, T3, U2, U3]
          exact ⟨0, _, rfl, xk_yes (xk_yes ⟨T4, U4⟩), ⟨T5, U5⟩, h.i3 _, ⟨i3_3 _ _, fun _ => rfl⟩, by decide⟩
      · simp only [if_pos c1, if_pos c2, if_neg c3]
        exact ⟨1, 0, rfl, xk_no _ (by decide), trivial, h.i3 _, ⟨i3_3 _ _, fun h0 => absurd h0 (by decide)⟩, by decide⟩
    · simp only [if_pos c1, if_neg c2]
      exact ⟨1, 0, rfl, xk_no _ (by decide), trivial, h.i3 _, ⟨i3_3 _ _, fun h0 => absurd h0 (by decide)⟩, by decide⟩
  · simp only [if_neg c1]
    exact ⟨1, 0, rfl, xk_no _ (by decide), trivial, h.i3 _, ⟨i3_3 _ _, fun h0 => absurd h0 (by decide)⟩, by decide⟩
/-- surveys -/
theorem VR_of {n' : Nat} {s : SS} (hM : M ≤ 8) (hV : SV S (hasP S) M n' s) (h4 : s.1 4 = -1) : VR S M n' s := Or.inr ⟨hasP S, fun j hj => by rw [h4, (nobody j (by omega)).1, Bool.and_true], hV⟩
theorem SR.surv {s' : SS} (h : (∃ C R M W N : Nat, BR C R M W N b (m'.2.2 0) ∧ VR (m'.2.2 0) M (C * R) s') ) (g : SR b s9 u x kk m) (k : keeps m m') : SR b s' u x kk m' := ⟨h, g.2.1.same k.1 k.2.2.2.2.1, g.2.2.1.same k.2.1 k.2.2.2.2.2.2, g.2.2.2.trans k.2.2.1.symm⟩
theorem votes_op (h : SR b s9 u x kk m) (a1 : Int32) : ∃ (c : Nat) (r : Int32) (s' : SS), pX11_votes s9 b kk a1 = (c, (r, (s', b, kk))) ∧ kX11_votes s9 b kk a1 ∧ kX12_votes m a1 ∧ SR b s' u x kk (pX12_votes m a1).2 ∧ endR mpB c r (pX12_votes m a1) ∧ c ≤ 3 := by
  have hh := h
  obtain ⟨⟨C, R, M, W, N, h1, hv⟩, h2, h3, h4⟩ := hh
  have hl := h1.le
  have hCR : C * R ≤ 20 * 20 := Nat.mul_le_mul (by omega) (by omega)
  obtain ⟨p1, p2⟩ := hasC h1 a1
  unfold pX11_votes kX11_votes pX12_votes kX12_votes pX12_fails pX12_tells
  rw [p1]
  by_cases c1 : pX12_isCell m a1 = true
  · rw [if_pos c1, if_pos c1, c1, there_t, xb_yes]
    obtain ⟨c, hc, ec⟩ := p2 c1
    subst ec
    obtain ⟨s', t1, t2, t3, t4, t5⟩ := take_all h1 hv
    obtain ⟨F, w1, w2⟩ := votesAt_eq h1 hc (wo := -1000000000) (P := hasP (m.2.2 0)) (fun j hj => hasP_all (by omega))
    obtain ⟨v1, v2, -, -⟩ := votesOf_eq (s := s') (c := c) (by omega)
    have sm := stV_same m F c (VE (m.2.2 0) (hasP (m.2.2 0)) M c)
    rw [t1, w1]
    simp only [lt, bd]
    rw [v1, (t3.2.1 c hc).1]
    refine ⟨0, _, s', rfl, xk_yes ⟨t2, v2⟩, ⟨w2, vp_in_n (by omega) (by omega)⟩, ?_, ⟨i3_3 _ _, fun _ => ?_⟩, by decide⟩
    · exact SR.surv ⟨C, R, M, W, N, by rw [msi_3, sm.eS]; exact ⟨h1, t4⟩⟩ h (sm.keeps.trans (keeps_i _ _ ⟨by decide, by decide, by decide, by decide⟩))
    · rw [nI_clamp (by omega), stV_9, upd_eq]
      rfl
  · rw [if_neg c1, if_neg c1, bool_no c1, there_f, xb_no _ _ (by decide)]
    exact ⟨1, 0, s9, rfl, xk_no _ (by decide), trivial, h.i3 _, ⟨i3_3 _ _, fun h0 => absurd h0 (by decide)⟩, by decide⟩
theorem error_op (h : SR b s9 u x kk m) (a1 : Int32) : ∃ (c : Nat) (r : Int32) (s' : SS), pX11_error s9 b kk a1 = (c, (r, (s', b, kk))) ∧ kX11_error s9 b kk a1 ∧ kX12_error m a1 ∧ SR b s' u x kk (pX12_error m a1).2 ∧ endR mpB c r (pX12_error m a1) ∧ c ≤ 3 := by
  have hh := h
  obtain ⟨⟨C, R, M, W, N, h1, hv⟩, h2, h3, h4⟩ := hh
  have hl := h1.le
  have hCR : C * R ≤ 20 * 20 := Nat.mul_le_mul (by omega) (by omega)
  obtain ⟨p1, p2⟩ := hasC h1 a1
  unfold pX11_error kX11_error pX12_error kX12_error pX12_fails pX12_tells
  rw [p1]
  by_cases c1 : pX12_isCell m a1 = true
  · rw [if_pos c1, if_pos c1, c1, there_t, xb_yes]
    obtain ⟨c, hc, ec⟩ := p2 c1
    subst ec
    obtain ⟨s', t1, t2, t3, t4, t5⟩ := take_all h1 hv
    obtain ⟨F, w1, w2⟩ := votesAt_eq h1 hc (wo := -1000000000) (P := hasP (m.2.2 0)) (fun j hj => hasP_all (by omega))
    obtain ⟨-, -, v1, v2⟩ := votesOf_eq (s := s') (c := c) (by omega)
    have sm := stV_same m F c (VE (m.2.2 0) (hasP (m.2.2 0)) M c)
    rw [t1, w1]
    simp only [lt, bd]
    rw [v1, (t3.2.1 c hc).2]
    refine ⟨0, _, s', rfl, xk_yes ⟨t2, v2⟩, ⟨w2, vp_in_n (by omega) (by omega)⟩, ?_, ⟨i3_3 _ _, fun _ => ?_⟩, by decide⟩
    · exact SR.surv ⟨C, R, M, W, N, by rw [msi_3, sm.eS]; exact ⟨h1, t4⟩⟩ h (sm.keeps.trans (keeps_i _ _ ⟨by decide, by decide, by decide, by decide⟩))
    · rw [nI_clamp (by omega), stV_10, upd_eq]
      rfl
  · rw [if_neg c1, if_neg c1, bool_no c1, there_f, xb_no _ _ (by decide)]
    exact ⟨1, 0, s9, rfl, xk_no _ (by decide), trivial, h.i3 _, ⟨i3_3 _ _, fun h0 => absurd h0 (by decide)⟩, by decide⟩
theorem found_op (h : SR b s9 u x kk m) : ∃ (r : Int32) (s' : SS), pX11_found s9 b kk = (r, s', b, kk) ∧ kX11_found s9 b kk ∧ kX12_found m ∧ SR b s' u x kk (pX12_found m).2 ∧ r = (pX12_found m).1 := by
  have hh := h
  obtain ⟨⟨C, R, M, W, N, h1, hv⟩, h2, h3, h4⟩ := hh
  obtain ⟨s', t1, t2, t3, t4, t5⟩ := take_all h1 hv
  obtain ⟨m', f1, f2, f3, f4⟩ := find_all h1
  unfold pX11_found kX11_found pX12_found kX12_found pX12_tells
  rw [t1, f1]
  simp only [lt, bd]
  exact ⟨_, s', rfl, t2, f2, SR.surv ⟨C, R, M, W, N, by rw [msi_3, f4.eS]; exact ⟨h1, t4⟩⟩ h (f4.keeps.trans (keeps_i _ _ ⟨by decide, by decide, by decide, by decide⟩)), foundQ_s t3⟩
theorem without_op (h : SR b s9 u x kk m) (a1 : Int32) : ∃ (c : Nat) (r : Int32) (s' : SS), pX11_foundWithout s9 b kk a1 = (c, (r, (s', b, kk))) ∧ kX11_foundWithout s9 b kk a1 ∧ kX12_foundWithout m a1 ∧ SR b s' u x kk (pX12_foundWithout m a1).2 ∧ endR mpB c r (pX12_foundWithout m a1) ∧ c ≤ 3 := by
  have hh := h
  obtain ⟨⟨C, R, M, W, N, h1, hv⟩, h2, h3, h4⟩ := hh
  obtain ⟨p1, p2⟩ := hasM h1 a1
  unfold pX11_foundWithout kX11_foundWithout pX12_foundWithout kX12_foundWithout pX12_fails pX12_tells
  rw [p1]
  by_cases c1 : pX12_isMicrophone m a1 = true
  · rw [if_pos c1, if_pos c1, c1, there_t, xb_yes]
    obtain ⟨s', P, t1, t2, t3, t4, t5, t6⟩ := take_eq h1 hv a1
    obtain ⟨m', f1, f2, f3, f4⟩ := finds_eq h1 t4
    rw [t1, f1]
    simp only [lt, bd]
    exact ⟨0, _, s', rfl, xk_yes t2, f2, SR.surv ⟨C, R, M, W, N, by rw [msi_3, f4.eS]; exact ⟨h1, t6⟩⟩ h (f4.keeps.trans (keeps_i _ _ ⟨by decide, by decide, by decide, by decide⟩)), ⟨i3_3 _ _, fun _ => foundQ_s t5⟩, by decide⟩
  · rw [if_neg c1, if_neg c1, bool_no c1, there_f, xb_no _ _ (by decide)]
    exact ⟨1, 0, s9, rfl, xk_no _ (by decide), trivial, h.i3 _, ⟨i3_3 _ _, fun h0 => absurd h0 (by decide)⟩, by decide⟩
theorem blame_op (h : SR b s9 u x kk m) (a1 : Int32) : ∃ (c : Nat) (r : Int32) (s' : SS), pX11_blame s9 b kk a1 = (c, (r, (s', b, kk))) ∧ kX11_blame s9 b kk a1 ∧ kX12_blame m a1 ∧ SR b s' u x kk (pX12_blame m a1).2 ∧ endR mpB c r (pX12_blame m a1) ∧ c ≤ 3 := by
  have hh := h
  obtain ⟨⟨C, R, M, W, N, h1, hv⟩, h2, h3, h4⟩ := hh
  have hl := h1.le
  obtain ⟨p1, p2⟩ := hasM h1 a1
  unfold pX11_blame kX11_blame pX12_blame kX12_blame pX12_fails pX12_tells
  rw [p1]
  by_cases c1 : pX12_isMicrophone m a1 = true
  · rw [if_pos c1, if_pos c1, c1, there_t, xb_yes]
    obtain ⟨i, hi, ei⟩ := p2 c1
    subst ei
    obtain ⟨s', t1, t2, t3, t4, t5⟩ := take_all h1 hv
    obtain ⟨m', f1, f2, f3, f4⟩ := find_all h1
    obtain ⟨F, b1, b2⟩ := blame_c h1 (fun i _ hp => hp) t3 hi
    have hb : BR C R M W N b (m'.2.2 0) := by rw [f4.eS]; exact h1
    obtain ⟨g1, g2⟩ := blame_m hb (P := hasP (m'.2.2 0)) (fun j hj => hasP_all (by omega)) hi
    rw [f4.eS] at g1 g2
    rw [t1, f1]
    simp only [lt, bd]
    rw [b1, g1]
    have hv2 : VR (m.2.2 0) M (C * R) (if s'.1 1 = -1000000000 then s' else ssa s' 3 F) := by
      split
      · exact t4
      · exact VR_of hl.2.2.1 (SV_ssa3 t3 F) t5
    exact ⟨0, _, _, rfl, xk_yes ⟨t2, b2⟩, ⟨f2, g2⟩, SR.surv ⟨C, R, M, W, N, by rw [msi_3, f4.eS]; exact ⟨h1, hv2⟩⟩ h (f4.keeps.trans (keeps_i _ _ ⟨by decide, by decide, by decide, by decide⟩)), ⟨i3_3 _ _, fun _ => rfl⟩, by decide⟩
  · rw [if_neg c1, if_neg c1, bool_no c1, there_f, xb_no _ _ (by decide)]
    exact ⟨1, 0, s9, rfl, xk_no _ (by decide), trivial, h.i3 _, ⟨i3_3 _ _, fun h0 => absurd h0 (by decide)⟩, by decide⟩
theorem suspect_op (h : SR b s9 u x kk m) : ∃ (r : Int32) (s' : SS), pX11_suspect s9 b kk = (r, s', b, kk) ∧ kX11_suspect s9 b kk ∧ kX12_suspect m ∧ SR b s' u x kk (pX12_suspect m).2 ∧ r = (pX12_suspect m).1 := by
  have hh := h
  obtain ⟨⟨C, R, M, W, N, h1, hv⟩, h2, h3, h4⟩ := hh
  have hl := h1.le
  obtain ⟨s', t1, t2, t3, t4, t5⟩ := take_all h1 hv
  obtain ⟨m', f1, f2, f3, f4⟩ := find_all h1
  have hb : BR C R M W N b (m'.2.2 0) := by rw [f4.eS]; exact h1
  obtain ⟨s2, q1, q2, q3, q4, q5, q6, q7⟩ := suspect_eq hb (s := s') (by rw [f4.eS]; exact t3)
  rw [f4.eS] at q1 q3 q4
  unfold pX11_suspect kX11_suspect pX12_suspect kX12_suspect pX12_tells
  rw [t1, f1]
  simp only [lt, bd]
  rw [q1]
  exact ⟨_, s2, rfl, ⟨t2, q2⟩, ⟨f2, q3⟩, SR.surv ⟨C, R, M, W, N, by rw [msi_3, f4.eS]; exact ⟨h1, VR_of hl.2.2.1 q4 (by rw [q5]; exact t5)⟩⟩ h (f4.keeps.trans (keeps_i _ _ ⟨by decide, by decide, by decide, by decide⟩)), rfl⟩
/-- the values of the whole -/
theorem wholeV (h : BR C R M W N b (m.2.2 0)) {s : SS} (hF : FV (m.2.2 0) (hasP (m.2.2 0)) M (C * R) m) {k : Nat} (hk : k ≤ 10) (hV : 6 ≤ k ∧ k ≤ 9 → SV (m.2.2 0) (hasP (m.2.2 0)) M (C * R) s) : pX11_valueOfWhole s b kk (nI k) = pX12_wholeOf m (nI k) (foundQ (m.2.2 0) (hasP (m.2.2 0)) M (C * R)) ∧ kX11_valueOfWhole s b kk (nI k) ∧ kX12_wholeOf m (nI k) (foundQ (m.2.2 0) (hasP (m.2.2 0)) M (C * R)) := by
  have hl := h.le
  have hCR : C * R ≤ 20 * 20 := Nat.mul_le_mul (by omega) (by omega)
  have hCR0 : 2 * 2 ≤ C * R := Nat.mul_le_mul (by omega) (by omega)
  have V : ∀ k, k ≤ 10 → vp_in (nI k) 122 := fun k hk => vp_in_n (by omega) (by omega)
  have hc : k = 0 ∨ k = 1 ∨ k = 2 ∨ k = 3 ∨ k = 4 ∨ k = 5 ∨ k = 6 ∨ k = 7 ∨ k = 8 ∨ k = 9 ∨ k = 10 := by omega
  rcases hc with rfl | rfl | rfl | rfl | rfl | rfl | rfl | rfl | rfl | rfl | rfl
  · exact ⟨h.b0.trans h.eC.symm, trivial, V 0 (by omega)⟩
  · exact ⟨h.b1.trans h.eR.symm, trivial, V 1 (by omega)⟩
  · exact ⟨h.b4.trans h.eM.symm, trivial, V 2 (by omega)⟩
  · exact ⟨h.b5.trans h.eW.symm, trivial, V 3 (by omega)⟩
  · exact ⟨h.b6.trans h.eN.symm, trivial, V 4 (by omega)⟩
  · exact ⟨h.b2, trivial, V 5 (by omega)⟩
  · have hs := hV ⟨by omega, by omega⟩
    obtain ⟨n1, n2⟩ := noted_eq h
    exact ⟨hs.1.1.trans n1.symm, trivial, n2⟩
  · have hs := hV ⟨by omega, by omega⟩
    have e := pairCount_eq hs.1.1 (by have := fa_cnt_le (hasP (m.2.2 0)) M; omega)
    exact ⟨e.trans hF.2.symm, trivial, trivial⟩
  · have hs := hV ⟨by omega, by omega⟩
    show pX8_votesOf s (s.1 1) = (if foundQ (m.2.2 0) (hasP (m.2.2 0)) M (C * R) = -1000000000 then 0 else m.2.2 9 (foundQ (m.2.2 0) (hasP (m.2.2 0)) M (C * R)).toNatClampNeg) ∧ kX8_votesOf s (s.1 1) ∧ (if foundQ (m.2.2 0) (hasP (m.2.2 0)) M (C * R) = -1000000000 then True else vp_in (foundQ (m.2.2 0) (hasP (m.2.2 0)) M (C * R)) 400)
    rw [foundQ_s hs]
    unfold foundQ
    by_cases e : tri (fa_cnt (hasP (m.2.2 0)) M) = 0
    · simp only [if_pos e, if_true]
      exact ⟨votesOf_no.1, votesOf_no.2, trivial⟩
    · have hq : bestQ (m.2.2 0) (hasP (m.2.2 0)) M (C * R) < C * R := bestQ_lt (by omega)
      obtain ⟨v1, v2, -, -⟩ := votesOf_eq (s := s) (c := bestQ (m.2.2 0) (hasP (m.2.2 0)) M (C * R)) (by omega)
      simp only [if_neg e, if_neg (nI_nNO (j := bestQ (m.2.2 0) (hasP (m.2.2 0)) M (C * R)) (by omega))]
      rw [v1, (hs.2.1 _ hq).1, nI_clamp (by omega), (hF.1 _ hq).1]
      exact ⟨rfl, v2, vp_in_n (by omega) (by omega)⟩
  · have hs := hV ⟨by omega, by omega⟩
    obtain ⟨l1, l2⟩ := likes_eq h hF hs
    exact ⟨l1.symm, trivial, l2⟩
  · exact ⟨h.b3, trivial, trivial⟩
theorem whole_op (h : SR b s9 u x kk m) (a1 : Int32) : ∃ (c : Nat) (r : Int32) (s' : SS), pX11_whole s9 b kk a1 = (c, (r, (s', b, kk))) ∧ kX11_whole s9 b kk a1 ∧ kX12_whole m a1 ∧ SR b s' u x kk (pX12_whole m a1).2 ∧ endR mpA c r (pX12_whole m a1) ∧ c ≤ 3 := by
  have hh := h
  obtain ⟨⟨C, R, M, W, N, h1, hv⟩, h2, h3, h4⟩ := hh
  have hl := h1.le
  unfold pX11_whole kX11_whole pX11_whole_L33 kX11_whole_L33 pX12_whole kX12_whole pX12_fails pX12_tells
  rw [in_eq, in_eq]
  by_cases c1 : pX12_in a1 0 10 = true
  · rw [if_pos c1, if_pos c1, c1, range_t, xb_yes]
    obtain ⟨k, k1, k2, ek⟩ := nI_of_rg (a := 0) (z := 10) ((in_iff _ _ _).mp c1)
    subst ek
    obtain ⟨m', f1, f2, f3, f4⟩ := find_all h1
    have hb : BR C R M W N b (m'.2.2 0) := by rw [f4.eS]; exact h1
    rw [f1]
    simp only [bd]
    have ks := f4.keeps.trans (keeps_i m' 0 (k := 3) ⟨by decide, by decide, by decide, by decide⟩)
    by_cases c2 : pX12_in (nI k) 6 9 = true
    · obtain ⟨s', t1, t2, t3, t4, t5⟩ := take_all h1 hv
      obtain ⟨v1, v2, v3⟩ := wholeV (kk := kk) hb (s := s') (by rw [f4.eS]; exact f3) k2 (fun _ => by rw [f4.eS]; exact t3)
      rw [f4.eS] at v1 v3
      rw [if_pos c2, if_pos c2, t1]
      simp only [lt]
      rw [v1]
      exact ⟨0, _, s', rfl, xk_yes ⟨t2, v2⟩, ⟨f2, v3⟩, SR.surv ⟨C, R, M, W, N, by rw [msi_3, f4.eS]; exact ⟨h1, t4⟩⟩ h ks, ⟨i3_3 _ _, fun _ => rfl⟩, by decide⟩
    · obtain ⟨v1, v2, v3⟩ := wholeV (kk := kk) hb (s := s9) (by rw [f4.eS]; exact f3) k2 (fun hk => absurd ((in_iff _ _ _).mpr (by unfold rg; rw [nI_toInt (by omega)]; exact ⟨show (6 : Int) ≤ k by omega, show (k : Int) ≤ 9 by omega⟩)) c2)
      rw [f4.eS] at v1 v3
      rw [if_neg c2, if_neg c2]
      simp only [lt]
      rw [v1]
      exact ⟨0, _, s9, rfl, xk_yes v2, ⟨f2, v3⟩, SR.surv ⟨C, R, M, W, N, by rw [msi_3, f4.eS]; exact ⟨h1, hv⟩⟩ h ks, ⟨i3_3 _ _, fun _ => rfl⟩, by decide⟩
  · rw [if_neg c1, if_neg c1, bool_no c1, range_f, xb_no _ _ (by decide)]
    exact ⟨2, 0, s9, rfl, xk_no _ (by decide), trivial, h.i3 _, ⟨i3_3 _ _, fun h0 => absurd h0 (by decide)⟩, by decide⟩
/-- texts -/
theorem type_op (h : SR b s9 u x kk m) (a1 : Int32) : ∃ (c : Nat) (r : Int32) (x' : TS), pX11_type x kk a1 = (c, (r, (x', kk))) ∧ kX11_type x kk a1 ∧ kX12_type m a1 ∧ SR b s9 u x' kk (pX12_type m a1).2 ∧ endR mpA c r (pX12_type m a1) ∧ c ≤ 3 := by
  have hh := h
  obtain ⟨h1, h2, ⟨n, n1, n2, n3, n4⟩, h4⟩ := hh
  have ef : pX5_isFull x = decide (150 ≤ n) := by
    unfold pX5_isFull
    rw [n2]
    by_cases c : n < 150
    · rw [if_pos (show nI n < 150 from nI_lt (b := 150) c (by omega))]; simp; omega
    · rw [if_neg (show ¬ nI n < 150 from nI_nlt (b := 150) (by omega) (by omega))]; simp; omega
  unfold pX11_type kX11_type pX11_type_L25 kX11_type_L25 pX12_type kX12_type pX12_fails pX12_tells
  rw [in_eq, ef, n3]
  by_cases c1 : pX12_in a1 0 127 = true
  · rw [if_pos c1, if_pos c1, c1, range_t, xb_yes]
    by_cases c2 : n = 150
    · subst c2
      simp only [show nI 150 = 150 from rfl, if_true, show decide (150 ≤ 150) = true from rfl, show pX11_refuse 3 = 3 from rfl, xb_no _ _ (show (3 : Nat) ≠ 0 by decide)]
      exact ⟨3, 0, x, rfl, xk_yes (xk_no _ (by decide)), trivial, h.i3 _, ⟨i3_3 _ _, fun h0 => absurd h0 (by decide)⟩, by decide⟩
    · have e150 : ¬ nI n = 150 := fun e => c2 ((nI_eq (b := 150) (by omega) (by omega)).mp e)
      have d150 : ¬ decide (150 ≤ n) = true := by simp; omega
      have V : vp_in (nI n) 150 := vp_in_n (by omega) (by omega)
      simp only [if_neg e150, if_neg d150, show pX11_refuse 0 = 0 from rfl, xb_yes]
      unfold pX5_append kX5_append
      rw [ef, if_neg d150, if_neg d150]
      simp only [lt, bd, n2, nI_clamp (show n < 2 ^ 31 by omega), nI_1]
      have e1 : (msa m 3 (upd (m.2.2 3) n a1)).1 1 = nI n := n3
      rw [e1, nI_1]
      have e2 : (msi (msa m 3 (upd (m.2.2 3) n a1)) 1 (nI (n + 1))).1 1 = nI (n + 1) := by rw [msi_1, upd_eq]
      rw [e2]
      refine ⟨0, _, (nI (n + 1), upd x.2 n a1), rfl, xk_yes (xk_yes V), V, ⟨h1, h2.same rfl rfl, ⟨n + 1, by omega, rfl, rfl, fun q hq => ?_⟩, h4⟩, ⟨i3_3 _ _, fun _ => rfl⟩, by decide⟩
      show upd x.2 n a1 q = upd (m.2.2 3) n a1 q ∧ rg (upd x.2 n a1 q) 0 127
      by_cases eq : q = n
      · rw [eq, upd_eq, upd_eq]
        exact ⟨rfl, (in_iff _ _ _).mp c1⟩
      · rw [upd_ne _ _ eq, upd_ne _ _ eq]
        exact n4 q (by omega)
  · rw [if_neg c1, if_neg c1, bool_no c1, range_f, xb_no _ _ (by decide)]
    exact ⟨2, 0, x, rfl, xk_no _ (by decide), trivial, h.i3 _, ⟨i3_3 _ _, fun h0 => absurd h0 (by decide)⟩, by decide⟩
theorem clear_op (h : SR b s9 u x kk m) : ∃ (r : Int32) (x' : TS), pX11_clearCommands x kk = (r, x', kk) ∧ SR b s9 u x' kk (pX12_clearCommands m).2 ∧ r = (pX12_clearCommands m).1 := by
  obtain ⟨h1, h2, ⟨n, n1, n2, n3, n4⟩, h4⟩ := h
  unfold pX11_clearCommands pX12_clearCommands pX12_tells pX5_empty
  simp only [lt, bd, n2, n3]
  exact ⟨_, _, rfl, ⟨h1, h2.same rfl rfl, ⟨0, by omega, rfl, rfl, fun q hq => by omega⟩, h4⟩, rfl⟩
theorem stop_op (h : SR b s9 u x kk m) : SR b s9 u x kk (pX12_stop m).2 ∧ pX11_stop kk = (pX12_stop m).1 := ⟨h.i3 _, h.2.2.2⟩
end ASKS
