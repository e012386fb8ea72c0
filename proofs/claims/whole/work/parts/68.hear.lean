/-! PURE: a click at all microphones -/
section HEAR
variable {C R M W N : Nat} {b b' : BS} {S S' : Nat → Int32} {m : MS}
/-- what listening to the list makes of both -/
def ResL (C R M W N i : Nat) (time off : Int32) (m0 : MS) (u : TS × BS) (m' : MS) : Prop := ∃ (t' : TS) (b' : BS), u = (t', b') ∧ BR C R M W N b' (m'.2.2 0) ∧ keeps m0 m' ∧ (∀ q, q ≠ 6 → q < 14 + 10 * i + 4 ∨ 14 + 10 * i + 10 ≤ q → m'.2.2 0 q = m0.2.2 0 q) ∧ (m'.2.2 0 (14 + 10 * i + 4) = 1 → ∃ z : Int32, rg z (time.toInt - 600) (time.toInt + 300600) ∧ m'.2.2 0 (14 + 10 * i + 5) = z - off)
theorem ResL.of {i : Nat} {time off : Int32} {m0 m1 m' : MS} {u : TS × BS} (h : ResL C R M W N i time off m1 u m') (g : keeps m0 m1) (e : ∀ q, q ≠ 6 → m1.2.2 0 q = m0.2.2 0 q) : ResL C R M W N i time off m0 u m' := by
  obtain ⟨t', b', h1, h2, h3, h4, h5⟩ := h
  exact ⟨t', b', h1, h2, g.trans h3, fun q hq hr => (h4 q hq hr).trans (e q hq), h5⟩
theorem add_sub3 (a c d : Int32) : a + (c - d) = a + c - d := by
  rw [Int32.sub_eq_add_neg, Int32.sub_eq_add_neg, Int32.add_assoc]
theorem end_eq (h : BR C R M W N b (m.2.2 0)) {L i : Nat} {t : TS} (hA : RA (m.2.2 0 7) L t m) (hi : i < M) {time best Tc Tm : Int32} (ht : rg time 0 100000) (hB : bestR time L best Tc Tm (m.2.2 0 (14 + 10 * i + 2))) : ResL C R M W N i time (m.2.2 0 (14 + 10 * i + 3)) m (pX6_write t b (nI i) best Tc) (if best = -1000000000 then pX12_notes_L256 (nI i) best Tm false m else pX12_notes_L256 (nI i) best Tm true m) ∧ kX6_write t b (nI i) best Tc ∧ (if best = -1000000000 then kX12_notes_L256 (nI i) best Tm false m else kX12_notes_L256 (nI i) best Tm true m) := by
  have hl := h.le
  obtain ⟨A1, A2, A3, A4⟩ := hA
  obtain ⟨c1, c2⟩ := at9m (k := 2) (kk := 2) h rfl hi (by omega)
  obtain ⟨d1, d2⟩ := at9m (k := 3) (kk := 3) h rfl hi (by omega)
  unfold pX6_write kX6_write
  simp only [lt, c1, d1]
  rcases hB with e | ⟨p, p1, p2, p3, p4, p5⟩
  · subst e
    simp only [if_true]
    have w := w34_eq h hi (t := t) (v := -1000000000) (x := -1000000000) at_no at_no at_no at_no
    have n := n256_f (m := m) (i := i) (by omega) (-1000000000) Tm
    rw [w.1, n.1]
    refine ⟨⟨t, _, rfl, h.unnoted hi, ⟨rfl, rfl, rfl, rfl, rfl, rfl, rfl⟩, fun q _ hq => row6_ne hq, fun h4 => ?_⟩, ⟨c2, d2, w.2⟩, n.2⟩
    have h4 : row6 (m.2.2 0) (14 + 10 * i) 0 0 0 0 0 0 (14 + 10 * i + 4) = 1 := h4
    rw [row6_at.1] at h4
    exact absurd h4 (by decide)
  · subst p2
    simp only [if_neg (nI_nNO (j := p) (by omega))]
    obtain ⟨K, w, T, s, K1, w1, T1, s1, r0, c0, r1, c1, r2, c2', r3, c3, r4, r5⟩ := A4 p p1
    obtain ⟨f0, f1⟩ := at6 (c := 0) (cc := 0) A1 A3 p1 rfl (by omega)
    obtain ⟨g0, g1⟩ := at6 (c := 3) (cc := 3) A1 A3 p1 rfl (by omega)
    obtain ⟨j0, j1⟩ := at6 (c := 4) (cc := 4) A1 A3 p1 rfl (by omega)
    obtain ⟨l0, l1⟩ := at6 (c := 5) (cc := 5) A1 A3 p1 rfl (by omega)
    have w := w34_eq h hi (t := t) (v := nI p) (x := Tc + (m.2.2 0 (14 + 10 * i + 2) - m.2.2 0 (14 + 10 * i + 3))) ⟨f0.trans (r0.trans c0.symm), f1⟩ ⟨g0.trans (r3.trans c3.symm), g1⟩ ⟨j0.trans r4, j1⟩ ⟨l0.trans r5, l1⟩
    have n := n256_t (m := m) (i := i) (p := p) (by omega) (by omega) Tm
    rw [w.1, n.1]
    obtain ⟨-, -, m2, m3, -⟩ := h.mic hi
    have t1 := ht.1; have t2 := ht.2; have q1 := p3.1; have q2 := p3.2; have k1 := m2.1; have k2 := m2.2; have o1 := m3.1; have o2 := m3.2
    have e : Tc + (m.2.2 0 (14 + 10 * i + 2) - m.2.2 0 (14 + 10 * i + 3)) = Tm - m.2.2 0 (14 + 10 * i + 3) := by
      rw [add_sub3, p4]
    have eI : (Tm - m.2.2 0 (14 + 10 * i + 3)).toInt = Tm.toInt - (m.2.2 0 (14 + 10 * i + 3)).toInt := Kit.i32_sub (by omega) (by omega)
    rw [e]
    refine ⟨⟨t, _, rfl, h.noted hi ⟨by omega, by omega⟩, ⟨rfl, rfl, rfl, rfl, rfl, rfl, rfl⟩, fun q _ hq => row6_ne hq, fun _ => ⟨Tm, ⟨by omega, by omega⟩, row6_at.2.1⟩⟩, ⟨c2, d2, by rw [← e]; exact w.2⟩, n.2⟩
theorem listen_L {L i : Nat} {t : TS} (hi : i < M) {time clk off v : Int32} (ht : rg time 0 100000) : ∀ (n k : Nat), k ≤ L → L - k < n → ∀ (b : BS) (m : MS) (best Tc Tm : Int32), BR C R M W N b (m.2.2 0) → RA v L t m → m.2.2 0 7 = v → m.2.2 0 (14 + 10 * i + 2) = clk → m.2.2 0 (14 + 10 * i + 3) = off → bestR time k best Tc Tm clk → ResL C R M W N i time off m (pX6_listen_L10 n (nI i) time best Tc (nI k) t b) (pX12_notes_L18 n time (nI i) best Tm (nI k) m) ∧ kX6_listen_L10 n (nI i) time best Tc (nI k) t b ∧ kX12_notes_L18 n time (nI i) best Tm (nI k) m := by
  intro n
  induction n with
  | zero => intro k h1 h2; omega
  | succ n ih =>
    intro k h1 h2 b m best Tc Tm h hA h7 hc ho hB
    have hl := h.le
    subst h7 hc ho
    have hL17 := hA.2.2.1
    show ResL C R M W N i time _ m (bX6_listen_L10 (pX6_listen_L10 n) _ _ _ _ _ _ _) (bX12_notes_L18 (pX12_notes_L18 n) _ _ _ _ _ _) ∧ kbX6_listen_L10 (kX6_listen_L10 n) _ _ _ _ _ _ _ ∧ kbX12_notes_L18 (kX12_notes_L18 n) _ _ _ _ _ _
    unfold bX6_listen_L10 kbX6_listen_L10 bX12_notes_L18 kbX12_notes_L18
    rw [hA.1, hA.2.1]
    by_cases e : k = L
    · subst e
      simp only [if_pos (nI_le (Nat.le_refl k) (show k < 2 ^ 31 by omega)), lt]
      exact end_eq h hA hi ht hB
    · have hk : k < L := by omega
      simp only [if_neg (nI_ge hk (show L < 2 ^ 31 by omega))]
      obtain ⟨z, b1, m1, z1, z2, z3, z4, z5, z6, z7⟩ := only6.draw (A := 100) h (by omega) (by omega)
      rw [show (100 : Int32) = nI 100 from rfl, z2, z3]
      simp only [bd]
      obtain ⟨s1, s2⟩ := setting_eq (i := 2) (ii := 2) z6 rfl (by omega)
      rw [show pX2_setting b1 2 = m1.2.2 0 9 from s1]
      have e7 : m1.2.2 0 7 = m.2.2 0 7 := z7.eS (by omega)
      have e2 : m1.2.2 0 (14 + 10 * i + 2) = m.2.2 0 (14 + 10 * i + 2) := z7.eS (by omega)
      have e3 : m1.2.2 0 (14 + 10 * i + 3) = m.2.2 0 (14 + 10 * i + 3) := z7.eS (by omega)
      have hA1 := z7.RA hA
      by_cases lost : m1.2.2 0 9 ≤ nI z
      · simp only [if_pos lost]
        obtain ⟨J, b2, m2, J1, J2, J3, J4, J5, J6, J7⟩ := jit_eq z6
        have f7 : m2.2.2 0 7 = m.2.2 0 7 := (J7.eS (by omega)).trans e7
        have f2 : m2.2.2 0 (14 + 10 * i + 2) = m.2.2 0 (14 + 10 * i + 2) := (J7.eS (by omega)).trans e2
        have f3 : m2.2.2 0 (14 + 10 * i + 3) = m.2.2 0 (14 + 10 * i + 3) := (J7.eS (by omega)).trans e3
        have hA2 := J7.RA hA1
        obtain ⟨best', Tc', Tm', q1, q2, q3, q4, q5⟩ := step_eq J6 (f7.symm ▸ hA2) hi hk ht J1 (f2.symm ▸ hB) false
        unfold pX6_listen_L44 kX6_listen_L44
        simp only [Bool.false_eq_true, if_false, J2, bd, J4, q2, q3]
        have r := ih (k + 1) (by omega) (by omega) b2 m2 best' Tc' Tm' J6 hA2 f7 f2 f3 (f2 ▸ q1)
        exact ⟨r.1.of (z7.keeps.trans J7.keeps) (fun q hq => (J7.eS hq).trans (z7.eS hq)), ⟨z4, s2, J3, q4 _ r.2.1⟩, z5, J5 _ _ _ _ _ _ (q5 _ r.2.2)⟩
      · simp only [if_neg lost]
        obtain ⟨best', Tc', Tm', q1, q2, q3, q4, q5⟩ := step_eq z6 (e7.symm ▸ hA1) hi hk ht (J := 0) ⟨by decide, by decide⟩ (e2.symm ▸ hB) true
        unfold pX6_listen_L44 kX6_listen_L44 pX12_notes_L48 kX12_notes_L48 pX12_notes_L91 kX12_notes_L91
        simp only [if_true, q2, q3]
        have r := ih (k + 1) (by omega) (by omega) b1 m1 best' Tc' Tm' z6 hA1 e7 e2 e3 (e2 ▸ q1)
        exact ⟨r.1.of z7.keeps (fun q hq => z7.eS hq), ⟨z4, s2, q4 _ r.2.1⟩, z5, q5 _ r.2.2⟩
theorem hear_eq (h : BR C R M W N b (m.2.2 0)) {i : Nat} (hi : i < M) {x y time : Int32} (hx : rg x (-1000) 3000) (hy : rg y (-1000) 3000) (ht : rg time 0 100000) (t : TS) : ∃ t1, pX1_collect t b x y (nI i) = (t1, b) ∧ ResL C R M W N i time (m.2.2 0 (14 + 10 * i + 3)) m (pX6_listen t1 b (nI i) time) (pX12_notes m x y time (nI i)) ∧ kX1_collect t b x y (nI i) ∧ kX6_listen t1 b (nI i) time ∧ kX12_notes m x y time (nI i) := by
  obtain ⟨⟨L, t1, e, hA, hk, hS⟩, k1, k2⟩ := collect_eq h hi hx hy t
  have r := listen_L (C := C) (R := R) (W := W) (N := N) hi ht (t := t1) (L := L) (v := m.2.2 0 7) fu 0 (by omega) (by have := fu_ge; have := hA.2.2.1; omega) b (pX12_lists m x y (nI i)) (-1000000000) 0 0 (by rw [hS]; exact h) hA (by rw [hS]) rfl rfl (Or.inl rfl)
  rw [show (pX12_lists m x y (nI i)).2.2 0 (14 + 10 * i + 3) = m.2.2 0 (14 + 10 * i + 3) by rw [hS]] at r
  refine ⟨t1, e, ?_, k1, r.2.1, k2, r.2.2⟩
  exact r.1.of hk (fun q _ => by rw [hS])
def hasP (S : Nat → Int32) (j : Nat) : Bool := decide (S (14 + 10 * j + 4) = 1)
theorem hasNoted_eq (h : BR C R M W N b S) {i : Nat} (hi : i < M) : pX2_hasNoted b (nI i) = hasP S i ∧ kX2_hasNoted b (nI i) := by
  obtain ⟨e1, e2⟩ := at9 (k := 4) (kk := 4) h rfl hi (by omega)
  obtain ⟨-, h2, h3⟩ := h.mR hi
  obtain ⟨-, -, -, -, -, m5⟩ := h.mic hi
  unfold pX2_hasNoted kX2_hasNoted hasP
  rw [e1]
  refine ⟨?_, e2⟩
  by_cases c : S (14 + 10 * i + 4) = 1
  · rw [(h2 c).1, if_neg, c]
    · rfl
    · intro e
      rw [e] at m5
      exact absurd m5.1 (by decide)
  · rw [if_pos (h3 c 0 (by omega))]
    simp [c]
theorem noted_L (h : BR C R M W N b (m.2.2 0)) : ∀ (n k : Nat), k ≤ M → M - k < n → pX12_noted_L4 m n (nI (fa_cnt (hasP (m.2.2 0)) k)) (nI k) = nI (fa_cnt (hasP (m.2.2 0)) M) ∧ kX12_noted_L4 m n (nI (fa_cnt (hasP (m.2.2 0)) k)) (nI k) := by
  have hl := h.le
  intro n
  induction n with
  | zero => intro k h1 h2; omega
  | succ n ih =>
    intro k h1 h2
    show bX12_noted_L4 m (pX12_noted_L4 m n) _ _ = _ ∧ kbX12_noted_L4 m (kX12_noted_L4 m n) _ _
    unfold bX12_noted_L4 kbX12_noted_L4
    rw [h.eM]
    by_cases e : k = M
    · subst e
      simp only [if_pos (nI_le (Nat.le_refl k) (show k < 2 ^ 31 by omega))]
      exact ⟨trivial, trivial⟩
    · have hk : k < M := by omega
      simp only [if_neg (nI_ge hk (show M < 2 ^ 31 by omega))]
      obtain ⟨o1, o2⟩ := of_eq (m := m) (i := k) (k := 4) (kk := 4) rfl (by omega) (by omega)
      obtain ⟨-, -, -, -, m4, -⟩ := h.mic hk
      have r := ih (k + 1) (by omega) (by omega)
      simp only [lt, o1, nI_1]
      rcases m4 with m4 | m4
      · rw [fa_cnt_no (by unfold hasP; rw [m4]; decide)] at r
        rw [m4, Int32.add_zero]
        exact ⟨r.1, o2, r.2⟩
      · rw [fa_cnt_yes (by unfold hasP; rw [m4]; decide)] at r
        rw [m4, nI_1]
        exact ⟨r.1, o2, r.2⟩
theorem noted_eq (h : BR C R M W N b (m.2.2 0)) : pX12_noted m = nI (fa_cnt (hasP (m.2.2 0)) M) ∧ kX12_noted m := noted_L h fu 0 (by omega) (by have := h.le; have := fu_ge; omega)
theorem BR.s5 (h : BR C R M W N b S) (x : Int32) : BR C R M W N (bsi b 2 x) (upd S 5 x) := by
  have hl := h.le
  have hs := h.set
  refine h.chg (fun k hk => upd_ne _ _ (by omega)) ?_ (fun i hi => okMic_same (h.mic hi) (fun k hk => upd_ne _ _ (by omega))) (fun q hq => upd_ne _ _ (by omega)) rfl rfl rfl rfl rfl rfl rfl ?_ (fun i hi => micR_same (i := i) (h.mR hi) (fun k hk => rfl) (fun k hk => upd_ne _ _ (by omega))) rfl rfl ?_
  · unfold okSet at hs ⊢
    rw [upd_ne _ _ (by omega), upd_ne _ _ (by omega), upd_ne _ _ (by omega), upd_ne _ _ (by omega), upd_ne _ _ (by omega), upd_ne _ _ (by omega), upd_ne _ _ (by omega), upd_ne _ _ (by omega)]
    exact hs
  · rw [upd_ne _ _ (by omega)]
    exact h.b3
  · intro k hk
    rw [upd_ne _ _ (by omega)]
    exact h.setR hk
/-- what a click makes of both -/
def ResC (C R M W N : Nat) (m0 : MS) (u : Int32 × TS × BS) (w : Int32 × MS) : Prop := ∃ (c : Nat) (t' : TS) (b' : BS), c ≤ 8 ∧ u = (nI c, t', b') ∧ w.1 = 0 ∧ w.2.1 5 = nI c ∧ BR C R M W N b' (w.2.2.2 0) ∧ keeps m0 w.2
theorem ResC.of {m0 m1 : MS} {u : Int32 × TS × BS} {w : Int32 × MS} (h : ResC C R M W N m1 u w) (g : keeps m0 m1) : ResC C R M W N m0 u w := by
  obtain ⟨c, t', b', h1, h2, h3, h4, h5, h6⟩ := h
  exact ⟨c, t', b', h1, h2, h3, h4, h5, g.trans h6⟩
theorem click_L {x y time : Int32} (hx : rg x (-1000) 3000) (hy : rg y (-1000) 3000) (ht : rg time 0 100000) : ∀ (n i : Nat), i ≤ M → M - i < n → ∀ (b : BS) (m : MS) (t : TS), BR C R M W N b (m.2.2 0) → ResC C R M W N m (pX6_hearClick_L6 n x y time (nI (fa_cnt (hasP (m.2.2 0)) i)) (nI i) t b) (pX12_clicks_L20 n x y time (nI i) m) ∧ kX6_hearClick_L6 n x y time (nI (fa_cnt (hasP (m.2.2 0)) i)) (nI i) t b ∧ kX12_clicks_L20 n x y time (nI i) m := by
  intro n
  induction n with
  | zero => intro i h1 h2; omega
  | succ n ih =>
    intro i h1 h2 b m t h
    have hl := h.le
    show ResC C R M W N m (bX6_hearClick_L6 (pX6_hearClick_L6 n) _ _ _ _ _ _ _) (bX12_clicks_L20 (pX12_clicks_L20 n) _ _ _ _ _) ∧ kbX6_hearClick_L6 (kX6_hearClick_L6 n) _ _ _ _ _ _ _ ∧ kbX12_clicks_L20 (kX12_clicks_L20 n) _ _ _ _ _
    unfold bX6_hearClick_L6 kbX6_hearClick_L6 bX12_clicks_L20 kbX12_clicks_L20
    rw [h.b4, h.eM]
    by_cases e : i = M
    · subst e
      simp only [if_pos (nI_le (Nat.le_refl i) (show i < 2 ^ 31 by omega)), lt]
      rw [h.b2]
      have h5 : BR C R i W N (bsi b 2 (m.2.2 0 5 + 1)) ((msa m 0 (upd (m.2.2 0) 5 (m.2.2 0 5 + 1))).2.2 0) := h.s5 _
      obtain ⟨n1, n2⟩ := noted_eq h5
      rw [n1]
      have hc := fa_cnt_le (hasP (m.2.2 0)) i
      have ec : fa_cnt (hasP ((msa m 0 (upd (m.2.2 0) 5 (m.2.2 0 5 + 1))).2.2 0)) i = fa_cnt (hasP (m.2.2 0)) i := fa_cnt_cong (fun k hk => by
        unfold hasP
        rw [show (msa m 0 (upd (m.2.2 0) 5 (m.2.2 0 5 + 1))).2.2 0 (14 + 10 * k + 4) = m.2.2 0 (14 + 10 * k + 4) from upd_ne _ _ (by omega)])
      rw [ec]
      exact ⟨⟨_, t, _, by omega, rfl, rfl, rfl, h5, ⟨rfl, rfl, rfl, rfl, rfl, rfl, rfl⟩⟩, trivial, n2⟩
    · have hi : i < M := by omega
      simp only [if_neg (nI_ge hi (show M < 2 ^ 31 by omega)), lt]
      obtain ⟨t1, e1, ⟨t2, b2, e2, hb2, hk2, hS2, -⟩, k1, k2, k3⟩ := hear_eq h hi hx hy ht t
      rw [e1]
      simp only [e2]
      obtain ⟨n1, n2⟩ := hasNoted_eq hb2 hi
      rw [n1]
      have ec : fa_cnt (hasP ((pX12_notes m x y time (nI i)).2.2 0)) i = fa_cnt (hasP (m.2.2 0)) i := fa_cnt_cong (fun k hk => by
        unfold hasP
        rw [hS2 (14 + 10 * k + 4) (by omega) (by omega)])
      have r := ih (i + 1) (by omega) (by omega) b2 _ t2 hb2
      unfold pX6_hearClick_L51 kX6_hearClick_L51
      simp only [lt, nI_1]
      cases hv : hasP ((pX12_notes m x y time (nI i)).2.2 0) i with
      | true =>
        rw [fa_cnt_yes hv, ec] at r
        simp only [if_true]
        exact ⟨r.1.of hk2, ⟨k1, k2, n2, r.2.1⟩, k3, r.2.2⟩
      | false =>
        rw [fa_cnt_no hv, ec] at r
        simp only [Bool.false_eq_true, if_false]
        exact ⟨r.1.of hk2, ⟨k1, k2, n2, r.2.1⟩, k3, r.2.2⟩
end HEAR
