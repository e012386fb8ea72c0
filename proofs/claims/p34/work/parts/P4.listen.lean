/-! PURE: numbers drawn, and what a microphone notes -/
section LISTEN
variable {C R M W N : Nat} {b b' b2 : BS} {g g' g2 m w a : Nat → Int32}
theorem draw_eq (h : BR C R M W N b g m w) {A : Nat} (hA : 1 ≤ A) (hA2 : A ≤ 1000) : ∃ v s : Nat, v < A ∧ s < 2 ^ 31 ∧ pX2_draw b (nI A) = (nI v, bsi b 3 (nI s)) ∧ pL_draw g (nI A) = (nI v, upd g 6 (nI s)) ∧ kX2_draw b (nI A) ∧ kL_draw g (nI A) := by
  have h6 := h.set.1
  have e6 := pu_nI h6
  have hlt : (g 6).toInt < 2 ^ 31 := Int32.toInt_lt _
  obtain ⟨q, hq, eq⟩ : ∃ q : Nat, q < 2 ^ 31 ∧ g 6 = nI q := ⟨_, by omega, e6⟩
  have hX : (1103515245 * q + 12345) % 2 ^ 31 < 2 ^ 31 := Nat.mod_lt _ (by omega)
  obtain ⟨s, hs⟩ : ∃ s, s = (1103515245 * q + 12345) % 2 ^ 31 := ⟨_, rfl⟩
  rw [← hs] at hX
  have eL : (1103515245 * (nI q).toInt64 + 12345 : Int64) = lN (1103515245 * q + 12345) := by
    rw [nI_l hq, show (1103515245 : Int64) = lN 1103515245 from rfl, show (12345 : Int64) = lN 12345 from rfl, lN_mul, lN_add]
  have e1 : (lN (1103515245 * q + 12345) - lN (1103515245 * q + 12345) / 2147483648 * 2147483648).toInt32 = nI s := by
    rw [show (2147483648 : Int64) = lN (2 ^ 31) from rfl, pk_lRem (by omega) (by omega) (by omega), lN_i, hs]
  have hd : s / 65536 < 2 ^ 31 := by omega
  have e3 : nI s / 65536 = nI (s / 65536) := pk_div (d := 65536) hX (by omega) (by omega)
  have e5 : nI (s / 65536) - nI (s / 65536) / nI A * nI A = nI (s / 65536 % A) := pk_rem hd (by omega) (by omega)
  refine ⟨s / 65536 % A, s, Nat.mod_lt _ (by omega), hX, ?_, ?_, ?_, ?_⟩
  · unfold pX2_draw
    simp only [lt]
    rw [h.b3, eq, eL, e1, if_pos (show (1 : Int32) ≤ nI A from nI_le (a := 1) hA (by omega))]
    show (nI s / 65536 - nI s / 65536 / nI A * nI A, _) = _
    rw [e3, e5]
  · unfold pL_draw
    simp only [lt]
    rw [eq, eL, e1, upd_eq]
    show (nI s / 65536 - nI s / 65536 / nI A * nI A, _) = _
    rw [e3, e5]
  · unfold kX2_draw
    simp only [lt]
    rw [if_pos (show (1 : Int32) ≤ nI A from nI_le (a := 1) hA (by omega))]
    exact nI_ne0 (by omega) (by omega)
  · unfold kL_draw
    simp only [lt]
    exact nI_ne0 (by omega) (by omega)
/-- states in which only the drawn number has changed -/
def sd (b b' : BS) (g g' : Nat → Int32) : Prop := ∃ s : Int32, b' = bsi b 3 s ∧ g' = upd g 6 s
theorem upd_self (f : Nat → Int32) (k : Nat) : upd f k (f k) = f := fa_upd_same rfl
theorem sd.rfl' (h : BR C R M W N b g m w) : sd b b g g := ⟨g 6, by unfold bsi; rw [← h.b3, upd_self], by rw [upd_self]⟩
theorem sd.trans (h : sd b b' g g') (k : sd b' b2 g' g2) : sd b b2 g g2 := by
  obtain ⟨x, rfl, rfl⟩ := h
  obtain ⟨y, rfl, rfl⟩ := k
  exact ⟨y, by unfold bsi; rw [upd_upd], by rw [upd_upd]⟩
theorem sd.eg (h : sd b b' g g') {q : Nat} (hq : q ≠ 6) : g' q = g q := by
  obtain ⟨s, -, rfl⟩ := h
  exact upd_ne _ _ hq
theorem sd.e2 (h : sd b b' g g') : b'.2 = b.2 := by
  obtain ⟨s, rfl, -⟩ := h
  rfl
theorem sd.draw (h : BR C R M W N b g m w) {A : Nat} (hA : 1 ≤ A) (hA2 : A ≤ 1000) : ∃ (v : Nat) (b' : BS) (g' : Nat → Int32), v < A ∧ pX2_draw b (nI A) = (nI v, b') ∧ pL_draw g (nI A) = (nI v, g') ∧ kX2_draw b (nI A) ∧ kL_draw g (nI A) ∧ BR C R M W N b' g' m w ∧ sd b b' g g' := by
  obtain ⟨v, s, v1, v2, v3, v4, v5, v6⟩ := draw_eq h hA hA2
  exact ⟨v, _, _, v1, v3, v4, v5, v6, h.s6 (by rw [nI_toInt v2]; omega), ⟨_, rfl, rfl⟩⟩
abbrev QH : Type := Int32 → Int32 → Int32 → Int32 → Int32 → Int32 → Int32 → Int32 → Int32 → (Nat → Int32) → (Nat → Int32) → (Nat → Int32) → (Int32 × (Nat → Int32) × (Nat → Int32))
abbrev QHP : Type := Int32 → Int32 → Int32 → Int32 → Int32 → Int32 → Int32 → Int32 → Int32 → (Nat → Int32) → (Nat → Int32) → (Nat → Int32) → Prop
abbrev QG : Type := Int32 → Int32 → Int32 → Int32 → Int32 → (Nat → Int32) → (Nat → Int32) → (Nat → Int32) → (Int32 × (Nat → Int32) × (Nat → Int32))
abbrev QGP : Type := Int32 → Int32 → Int32 → Int32 → Int32 → (Nat → Int32) → (Nat → Int32) → (Nat → Int32) → Prop
theorem jit_eq (h : BR C R M W N b g m w) : ∃ (J : Int32) (b' : BS) (g' : Nat → Int32), rg J (-50) 50 ∧ pX6_drawJitter b = (J, b') ∧ kX6_drawJitter b ∧ (∀ (q1 : QG) (q : QH) v3 v4 v5 v7 v8 v9 v10 v11 v12, pL_hears_L72 w q1 q v3 v4 v5 v7 v8 v9 v10 v11 v12 false true g m a = pL_hears_L105 w q1 q v3 v4 v5 v7 v8 v9 v10 v11 v12 J true g' m a) ∧ (∀ (q1 : QGP) (q : QHP) v3 v4 v5 v7 v8 v9 v10 v11 v12, kL_hears_L105 w q1 q v3 v4 v5 v7 v8 v9 v10 v11 v12 J true g' m a → kL_hears_L72 w q1 q v3 v4 v5 v7 v8 v9 v10 v11 v12 false true g m a) ∧ BR C R M W N b' g' m w ∧ sd b b' g g' := by
  obtain ⟨s1, s2⟩ := setting_eq (i := 3) (ii := 3) h rfl (by omega)
  obtain ⟨j, hj, ej⟩ := nI_rg (n := 50) h.set.2.2.2.2.1
  have s1 : pX2_setting b 3 = nI j := s1.trans ej
  unfold pX6_drawJitter kX6_drawJitter pL_hears_L72 kL_hears_L72
  simp only [lt, s1, ej, if_true]
  by_cases e0 : j = 0
  · subst e0
    simp only [if_pos (show nI 0 ≤ 0 from by decide)]
    exact ⟨0, b, g, ⟨by decide, by decide⟩, rfl, ⟨s2, trivial⟩, fun q1 q v3 v4 v5 v7 v8 v9 v10 v11 v12 => rfl, fun q1 q v3 v4 v5 v7 v8 v9 v10 v11 v12 hq => hq, h, sd.rfl' h⟩
  · have hA : (2 * nI j + 1 : Int32) = nI (2 * j + 1) := by rw [show (2 : Int32) = nI 2 from rfl, pk_mul, nI_1]
    simp only [if_neg (nI_nle (n := j) (by omega) (by omega)), hA]
    obtain ⟨v, b', g', z1, z2, z3, z4, z5, z6, z7⟩ := sd.draw (A := 2 * j + 1) h (by omega) (by omega)
    rw [z2, z3]
    simp only [bd]
    have e10 : g' 10 = nI j := (z7.eg (by omega)).trans ej
    refine ⟨nI v - nI j, b', g', ?_, rfl, ⟨s2, z4⟩, fun q1 q v3 v4 v5 v7 v8 v9 v10 v11 v12 => ?_, fun q1 q v3 v4 v5 v7 v8 v9 v10 v11 v12 hq => ⟨z5, ?_⟩, z6, z7⟩
    · unfold rg
      rw [Kit.i32_sub (by rw [nI_toInt (by omega), nI_toInt (by omega)]; omega) (by rw [nI_toInt (by omega), nI_toInt (by omega)]; omega), nI_toInt (by omega), nI_toInt (by omega)]
      omega
    · rw [e10]
    · rw [e10]
      exact hq
theorem at6 {L k c : Nat} {t : TS} {cc : Int32} (h : t.1 = nI L) (hL : L ≤ 17) (hk : k < L) (hc : cc = nI c) (h6 : c < 6) : pX9_at 17 6 102 t (nI k) cc = t.2 (k * 6 + c) ∧ kX9_at 17 6 102 t (nI k) cc := by
  obtain ⟨t1, t2⟩ := t
  have h : t1 = nI L := h
  subst h
  exact at_in (w := 6) rfl hc rfl hk h6 (by omega) (by omega) (by omega) (by omega)
def bestR (time : Int32) (k : Nat) (best lb Tc Tm clk : Int32) : Prop := (best = -1000000000 ∧ lb = -1 ∧ Tm = 0) ∨ ∃ p : Nat, p < k ∧ best = nI p ∧ lb = nI p ∧ rg Tc (time.toInt - 50) (time.toInt + 300050) ∧ Tm = Tc + clk ∧ Tm.toInt = Tc.toInt + clk.toInt
theorem step_eq (h : BR C R M W N b g m w) {L i k : Nat} {t : TS} (hA : RA (g 7) L t a) (hi : i < M) (hk : k < L) {time J best lb Tc Tm : Int32} (ht : rg time 0 100000) (hJ : rg J (-50) 50) (hB : bestR time k best lb Tc Tm (m (10 * i + 2))) (lost : Bool) :
    ∃ best' lb' Tc' Tm', bestR time (k + 1) best' lb' Tc' Tm' (m (10 * i + 2)) ∧ (∀ q, pX6_listen_L59 q (nI i) time best Tc (nI k) lost J t b = q (nI i) time best' Tc' (nI (k + 1)) t b) ∧ (∀ (q1 : QG) (q : QH) x y v7 v9, pL_hears_L105 w q1 q x y time v7 (nI i) v9 lb Tm (nI k) J (!lost) g m a = q x y time v7 (nI i) v9 lb' Tm' (nI (k + 1)) g m a) ∧ (∀ Q, Q (nI i) time best' Tc' (nI (k + 1)) t b → kX6_listen_L59 Q (nI i) time best Tc (nI k) lost J t b) ∧ (∀ (q1 : QGP) (q : QHP) x y v7 v9, q x y time v7 (nI i) v9 lb' Tm' (nI (k + 1)) g m a → kL_hears_L105 w q1 q x y time v7 (nI i) v9 lb Tm (nI k) J (!lost) g m a) := by
  have hl := h.le
  obtain ⟨A1, A3, A4⟩ := hA
  obtain ⟨K, w9, T, s, K1, w1, T1, s1, r0, c0, r1, c1, r2, c2, r3, c3, r4, r5⟩ := A4 k hk
  obtain ⟨o1, o2⟩ := ixM (i := i) (k := 2) (kk := 2) rfl (by omega) (by omega)
  obtain ⟨i1, j1⟩ := ixA (k := 1) (kk := 1) rfl (show k < 12 by omega) (by omega)
  obtain ⟨i2, j2⟩ := ixA (k := 2) (kk := 2) rfl (show k < 12 by omega) (by omega)
  obtain ⟨g1, g2⟩ := at6 (c := 3) (cc := 3) A1 (show L ≤ 17 by omega) hk rfl (by omega)
  obtain ⟨f1, f2⟩ := at6 (c := 2) (cc := 2) A1 (show L ≤ 17 by omega) hk rfl (by omega)
  obtain ⟨u1, u2⟩ := setting_eq (i := 4) (ii := 4) h rfl (by omega)
  obtain ⟨y1, y2⟩ := setting_eq (i := 5) (ii := 5) h rfl (by omega)
  obtain ⟨-, -, m2⟩ := h.mic hi
  have g7 := h.g7
  have hB' : bestR time (k + 1) best lb Tc Tm (m (10 * i + 2)) := by
    rcases hB with e | ⟨p, p1, p2⟩
    · exact Or.inl e
    · exact Or.inr ⟨p, by omega, p2⟩
  unfold pL_hears_L105 kL_hears_L105 pX6_listen_L59 kX6_listen_L59 pX6_listen_L141 kX6_listen_L141 pX6_listen_L133 kX6_listen_L133 pX6_listen_L141 kX6_listen_L141 pL_hears_L205 kL_hears_L205 pL_hears_L213 kL_hears_L213
  simp only [lt, i1, i2, j1, j2, c1, c3, c2, o1, o2, g1, f1, u1, r3, r2, nI_1, true_and, not_false_eq_true, g7]
  cases lost with
  | true =>
    simp only [if_true, Bool.not_true, Bool.false_eq_true, if_false]
    exact ⟨best, lb, Tc, Tm, hB', fun q => rfl, fun q1 q x y v7 v9 => rfl, fun Q hq => hq, fun q1 q x y v7 v9 hq => hq⟩
  | false =>
    simp only [Bool.not_false, Bool.false_eq_true, if_false, if_true]
    by_cases hs : nI s < g 11
    · have hs2 : ¬ g (7 + 4) ≤ nI s := fun e => by
        have e : g 11 ≤ nI s := e
        rw [fa_lt] at hs
        rw [fa_le] at e
        omega
      simp only [if_pos hs, if_neg hs2]
      exact ⟨best, lb, Tc, Tm, hB', fun q => rfl, fun q1 q x y v7 v9 => rfl, fun Q hq => ⟨g2, u2, hq⟩, fun q1 q x y v7 v9 hq => hq⟩
    · have hs2 : g (7 + 4) ≤ nI s := by
        show g 11 ≤ nI s
        rw [fa_lt] at hs
        rw [fa_le]
        omega
      simp only [if_neg hs, if_pos hs2]
      have t1 := ht.1; have t2 := ht.2; have j1 := hJ.1; have j2 := hJ.2; have k1 := m2.1; have k2 := m2.2
      have eT := nI_toInt (n := T) (by omega)
      have q1 : (time + nI T).toInt = time.toInt + T := by rw [Kit.i32_add (by omega) (by omega), eT]
      have q2 : (time + nI T + J).toInt = time.toInt + T + J.toInt := by rw [Kit.i32_add (by omega) (by omega), q1]
      have q3 : (time + nI T + m (10 * i + 2)).toInt = time.toInt + T + (m (10 * i + 2)).toInt := by rw [Kit.i32_add (by omega) (by omega), q1]
      have q4 : (time + nI T + m (10 * i + 2) + J).toInt = time.toInt + T + (m (10 * i + 2)).toInt + J.toInt := by rw [Kit.i32_add (by omega) (by omega), q3]
      have q5 : (time + nI T + J + m (10 * i + 2)).toInt = time.toInt + T + J.toInt + (m (10 * i + 2)).toInt := by rw [Kit.i32_add (by omega) (by omega), q2]
      have hN : bestR time (k + 1) (nI k) (nI k) (time + nI T + J) (time + nI T + m (10 * i + 2) + J) (m (10 * i + 2)) := Or.inr ⟨k, by omega, rfl, rfl, ⟨by omega, by omega⟩, Int32.toInt_inj.mp (by omega), by omega⟩
      rcases hB with ⟨e, e2, e3⟩ | ⟨p, p1, p2, p6, p3, p4, p5⟩
      · subst e2
        simp only [if_pos e, if_pos m1_neg]
        exact ⟨_, _, _, _, hN, fun q => rfl, fun q1 q x y v7 v9 => rfl, fun Q hq => ⟨g2, u2, f2, hq⟩, fun q1 q x y v7 v9 hq => hq⟩
      · have e : ¬ best = -1000000000 := by rw [p2]; exact nI_nNO (by omega)
        obtain ⟨K', w', T', s', K1', w1', T1', s1', r0', c0', r1', c1', r2', c2', r3', c3', r4', r5'⟩ := A4 p (by omega)
        obtain ⟨g1', g2'⟩ := at6 (c := 3) (cc := 3) A1 (show L ≤ 17 by omega) (show p < L by omega) rfl (by omega)
        obtain ⟨i2', j2'⟩ := ixA (k := 2) (kk := 2) rfl (show p < 12 by omega) (by omega)
        unfold pX6_isPreferred kX6_isPreferred
        subst p2
        subst p6
        simp only [if_neg e, if_neg (nI_pos (n := p) (by omega)), y1, g1, g1', r3, r3', i2', j2', c3', true_and]
        by_cases m0 : g 12 = 0
        · simp only [if_pos m0, if_pos (show g (7 + 5) = 0 from m0)]
          by_cases ord : Tc ≤ time + nI T + J
          · have ord2 : Tm ≤ time + nI T + m (10 * i + 2) + J := by
              rw [fa_le] at ord ⊢
              omega
            simp only [if_pos ord, if_pos ord2, Bool.false_eq_true, if_false]
            exact ⟨_, _, _, _, hB', fun q => rfl, fun q1 q x y v7 v9 => rfl, fun Q hq => ⟨g2, u2, f2, ⟨y2, trivial⟩, hq⟩, fun q1 q x y v7 v9 hq => hq⟩
          · have ord2 : ¬ Tm ≤ time + nI T + m (10 * i + 2) + J := by
              rw [fa_le] at ord ⊢
              omega
            simp only [if_neg ord, if_neg ord2, if_true]
            exact ⟨_, _, _, _, hN, fun q => rfl, fun q1 q x y v7 v9 => rfl, fun Q hq => ⟨g2, u2, f2, ⟨y2, trivial⟩, hq⟩, fun q1 q x y v7 v9 hq => hq⟩
        · simp only [if_neg m0, if_neg (show ¬ g (7 + 5) = 0 from m0)]
          by_cases ord : nI s ≤ nI s'
          · simp only [if_pos ord, Bool.false_eq_true, if_false]
            exact ⟨_, _, _, _, hB', fun q => rfl, fun q1 q x y v7 v9 => rfl, fun Q hq => ⟨g2, u2, f2, ⟨y2, g2, g2'⟩, hq⟩, fun q1 q x y v7 v9 hq => hq⟩
          · simp only [if_neg ord, if_true]
            exact ⟨_, _, _, _, hN, fun q => rfl, fun q1 q x y v7 v9 => rfl, fun Q hq => ⟨g2, u2, f2, ⟨y2, g2, g2'⟩, hq⟩, fun q1 q x y v7 v9 hq => hq⟩
/-- listening to a list: how both stand at its end -/
theorem listen_L {L i : Nat} {t : TS} (hi : i < M) {time v : Int32} (ht : rg time 0 100000) (Q1 : QG) (Q1p : QGP) (x y v7 : Int32) : ∀ (n k : Nat), k ≤ L → L - k < n → ∀ (b : BS) (g : Nat → Int32) (best lb Tc Tm : Int32), BR C R M W N b g m w → RA v L t a → g 7 = v → bestR time k best lb Tc Tm (m (10 * i + 2)) →
    ∃ (b' : BS) (g' : Nat → Int32) (best' lb' Tc' Tm' : Int32), BR C R M W N b' g' m w ∧ sd b b' g g' ∧ bestR time L best' lb' Tc' Tm' (m (10 * i + 2)) ∧
      pX6_listen_L10 n (nI i) time best Tc (nI k) t b = pX6_write t b' (nI i) best' Tc' ∧ (kX6_write t b' (nI i) best' Tc' → kX6_listen_L10 n (nI i) time best Tc (nI k) t b) ∧
      pL_hears_L44 w Q1 n x y time v7 (nI i) (nI L) lb Tm (nI k) g m a = pL_hears_L237 w Q1 x y time v7 (nI i) lb' Tm' (10 * nI i + 4) (decide (0 ≤ lb')) g' m a ∧ (kL_hears_L237 w Q1p x y time v7 (nI i) lb' Tm' (10 * nI i + 4) (decide (0 ≤ lb')) g' m a → kL_hears_L44 w Q1p n x y time v7 (nI i) (nI L) lb Tm (nI k) g m a) := by
  intro n
  induction n with
  | zero => intro k h1 h2; omega
  | succ n ih =>
    intro k h1 h2 b g best lb Tc Tm h hA h7 hB
    have hl := h.le
    subst h7
    have hL12 := hA.2.1
    show ∃ (b' : BS) (g' : Nat → Int32) (best' lb' Tc' Tm' : Int32), BR C R M W N b' g' m w ∧ sd b b' g g' ∧ bestR time L best' lb' Tc' Tm' (m (10 * i + 2)) ∧ bX6_listen_L10 (pX6_listen_L10 n) _ _ _ _ _ _ _ = _ ∧ (_ → kbX6_listen_L10 (kX6_listen_L10 n) _ _ _ _ _ _ _) ∧ bL_hears_L44 w Q1 (pL_hears_L44 w Q1 n) _ _ _ _ _ _ _ _ _ _ _ _ = _ ∧ (_ → kbL_hears_L44 w Q1p (kL_hears_L44 w Q1p n) _ _ _ _ _ _ _ _ _ _ _ _)
    unfold bX6_listen_L10 kbX6_listen_L10 bL_hears_L44 kbL_hears_L44
    rw [hA.1]
    by_cases e : k = L
    · subst e
      simp only [if_pos (nI_le (Nat.le_refl k) (show k < 2 ^ 31 by omega)), lt]
      refine ⟨b, g, best, lb, Tc, Tm, h, sd.rfl' h, hB, rfl, fun hq => hq, ?_, ?_⟩
      · by_cases c : 0 ≤ lb
        · rw [if_pos c, decide_eq_true c]
        · rw [if_neg c, decide_eq_false c]
      · by_cases c : 0 ≤ lb
        · rw [if_pos c, decide_eq_true c]
          exact fun hq => hq
        · rw [if_neg c, decide_eq_false c]
          exact fun hq => hq
    · have hk : k < L := by omega
      simp only [if_neg (nI_ge hk (show L < 2 ^ 31 by omega))]
      obtain ⟨z, b1, g1, z1, z2, z3, z4, z5, z6, z7⟩ := sd.draw (A := 100) h (by omega) (by omega)
      rw [show (100 : Int32) = nI 100 from rfl, z2, z3]
      simp only [bd]
      obtain ⟨s1, s2⟩ := setting_eq (i := 2) (ii := 2) z6 rfl (by omega)
      rw [show pX2_setting b1 2 = g1 9 from s1]
      have e7 : g1 7 = g 7 := z7.eg (by omega)
      by_cases lost : g1 9 ≤ nI z
      · have nl : ¬ nI z < g1 9 := fun e9 => by
          rw [fa_le] at lost; rw [fa_lt] at e9; omega
        simp only [if_pos lost, if_neg nl]
        obtain ⟨J, b2, g2, J1, J2, J3, J4, J5, J6, J7⟩ := jit_eq (a := a) z6
        have f7 : g2 7 = g 7 := (J7.eg (by omega)).trans e7
        obtain ⟨best', lb', Tc', Tm', q1, q2, q3, q4, q5⟩ := step_eq J6 (f7.symm ▸ hA) hi hk ht J1 hB false
        unfold pX6_listen_L44 kX6_listen_L44
        simp only [Bool.not_false] at q3 q5
        simp only [Bool.false_eq_true, if_false, J2, bd, J4, q2, q3]
        obtain ⟨b', g', best2, lb2, Tc2, Tm2, r1, r2, r3, r4, r5, r6, r7⟩ := ih (k + 1) (by omega) (by omega) b2 g2 best' lb' Tc' Tm' J6 hA f7 q1
        exact ⟨b', g', best2, lb2, Tc2, Tm2, r1, (z7.trans J7).trans r2, r3, r4, fun hq => ⟨z4, s2, J3, q4 _ (r5 hq)⟩, r6, fun hq => ⟨z5, J5 _ _ _ _ _ _ _ _ _ _ _ (q5 _ _ _ _ _ _ (r7 hq))⟩⟩
      · have nl : nI z < g1 9 := by
          rw [fa_le] at lost; rw [fa_lt]; omega
        simp only [if_neg lost, if_pos nl]
        obtain ⟨best', lb', Tc', Tm', q1, q2, q3, q4, q5⟩ := step_eq z6 (e7.symm ▸ hA) hi hk ht (J := 0) ⟨by decide, by decide⟩ hB true
        unfold pX6_listen_L44 kX6_listen_L44 pL_hears_L72 kL_hears_L72
        simp only [Bool.not_true] at q3 q5
        have b0 : bz false = 0 := rfl
        simp only [if_true, Bool.false_eq_true, if_false, b0, q2, q3]
        obtain ⟨b', g', best2, lb2, Tc2, Tm2, r1, r2, r3, r4, r5, r6, r7⟩ := ih (k + 1) (by omega) (by omega) b1 g1 best' lb' Tc' Tm' z6 hA e7 q1
        exact ⟨b', g', best2, lb2, Tc2, Tm2, r1, z7.trans r2, r3, r4, fun hq => ⟨z4, s2, q4 _ (r5 hq)⟩, r6, fun hq => ⟨z5, q5 _ _ _ _ _ _ (r7 hq)⟩⟩
end LISTEN
