/-! PURE: a click at a microphone, and at all of them -/
section HEAR
variable {C R M W N : Nat} {b b' b2 : BS} {g g' g2 m w a : Nat → Int32}
def row5 (f : Nat → Int32) (a : Nat) (x0 x1 x2 x3 x4 : Int32) : Nat → Int32 := upd (upd (upd (upd (upd f (a + 4) x0) (a + 5) x1) (a + 6) x2) (a + 7) x3) (a + 8) x4
def row6 (f : Nat → Int32) (a : Nat) (y0 x0 x1 x2 x3 x4 : Int32) : Nat → Int32 := upd (upd (upd (upd (upd (upd f (a + 4) y0) (a + 5) x0) (a + 6) x1) (a + 7) x2) (a + 8) x3) (a + 9) x4
theorem row5_ne {f : Nat → Int32} {a q : Nat} {x0 x1 x2 x3 x4 : Int32} (h : q < a + 4 ∨ a + 9 ≤ q) : row5 f a x0 x1 x2 x3 x4 q = f q := by
  unfold row5
  rw [upd_ne _ _ (by omega), upd_ne _ _ (by omega), upd_ne _ _ (by omega), upd_ne _ _ (by omega), upd_ne _ _ (by omega)]
theorem row6_ne {f : Nat → Int32} {a q : Nat} {y0 x0 x1 x2 x3 x4 : Int32} (h : q < a + 4 ∨ a + 10 ≤ q) : row6 f a y0 x0 x1 x2 x3 x4 q = f q := by
  unfold row6
  rw [upd_ne _ _ (by omega), upd_ne _ _ (by omega), upd_ne _ _ (by omega), upd_ne _ _ (by omega), upd_ne _ _ (by omega), upd_ne _ _ (by omega)]
theorem row5_at {f : Nat → Int32} {a : Nat} {x0 x1 x2 x3 x4 : Int32} : row5 f a x0 x1 x2 x3 x4 (a + 4) = x0 ∧ row5 f a x0 x1 x2 x3 x4 (a + 5) = x1 ∧ row5 f a x0 x1 x2 x3 x4 (a + 6) = x2 ∧ row5 f a x0 x1 x2 x3 x4 (a + 7) = x3 ∧ row5 f a x0 x1 x2 x3 x4 (a + 8) = x4 := by
  unfold row5
  refine ⟨?_, ?_, ?_, ?_, upd_eq _ _ _⟩
  · rw [upd_ne _ _ (by omega), upd_ne _ _ (by omega), upd_ne _ _ (by omega), upd_ne _ _ (by omega), upd_eq]
  · rw [upd_ne _ _ (by omega), upd_ne _ _ (by omega), upd_ne _ _ (by omega), upd_eq]
  · rw [upd_ne _ _ (by omega), upd_ne _ _ (by omega), upd_eq]
  · rw [upd_ne _ _ (by omega), upd_eq]
theorem row6_at {f : Nat → Int32} {a : Nat} {y0 x0 x1 x2 x3 x4 : Int32} : row6 f a y0 x0 x1 x2 x3 x4 (a + 4) = y0 ∧ row6 f a y0 x0 x1 x2 x3 x4 (a + 5) = x0 ∧ row6 f a y0 x0 x1 x2 x3 x4 (a + 6) = x1 ∧ row6 f a y0 x0 x1 x2 x3 x4 (a + 7) = x2 ∧ row6 f a y0 x0 x1 x2 x3 x4 (a + 8) = x3 ∧ row6 f a y0 x0 x1 x2 x3 x4 (a + 9) = x4 := by
  unfold row6
  refine ⟨?_, ?_, ?_, ?_, ?_, upd_eq _ _ _⟩
  · rw [upd_ne _ _ (by omega), upd_ne _ _ (by omega), upd_ne _ _ (by omega), upd_ne _ _ (by omega), upd_ne _ _ (by omega), upd_eq]
  · rw [upd_ne _ _ (by omega), upd_ne _ _ (by omega), upd_ne _ _ (by omega), upd_ne _ _ (by omega), upd_eq]
  · rw [upd_ne _ _ (by omega), upd_ne _ _ (by omega), upd_ne _ _ (by omega), upd_eq]
  · rw [upd_ne _ _ (by omega), upd_ne _ _ (by omega), upd_eq]
  · rw [upd_ne _ _ (by omega), upd_eq]
theorem add_sub3 (a c d : Int32) : a + (c - d) = a + c - d := by
  rw [Int32.sub_eq_add_neg, Int32.sub_eq_add_neg, Int32.add_assoc]
theorem put9 (h : BR C R M W N b g m w) {i k : Nat} {kk x : Int32} {f : Nat → Int32} (hk : kk = nI k) (hi : i < M) (h9 : k < 9) : pX9_put 8 9 72 (nI M, f) (nI i) kk x = (nI M, upd f (i * 9 + k) x) ∧ kX9_put 8 9 72 (nI M, f) (nI i) kk x := by
  have hl := h.le
  exact put_in (w := 9) rfl hk rfl hi h9 (by omega) (by omega) (by omega) (by omega)
theorem w34_eq (h : BR C R M W N b g m w) {i : Nat} (hi : i < M) {t : TS} {v x z0 z1 z2 z3 : Int32} (h0 : pX9_at 17 6 102 t v 0 = z0 ∧ kX9_at 17 6 102 t v 0) (h1 : pX9_at 17 6 102 t v 3 = z1 ∧ kX9_at 17 6 102 t v 3) (h2 : pX9_at 17 6 102 t v 4 = z2 ∧ kX9_at 17 6 102 t v 4) (h3 : pX9_at 17 6 102 t v 5 = z3 ∧ kX9_at 17 6 102 t v 5) : pX6_write_L34 (nI i) v (nI i) 4 x t b = (t, bst b 0 (nI M, row5 (b.2 0) (i * 9) x z0 z1 z2 z3)) ∧ kX6_write_L34 (nI i) v (nI i) 4 x t b := by
  have p := fun (k : Nat) (kk x : Int32) (f : Nat → Int32) (e : kk = nI k) (hk : k < 9) => put9 h (i := i) (k := k) (kk := kk) (x := x) (f := f) e hi hk
  unfold pX6_write_L34 kX6_write_L34
  simp only [lt, bst_t0, bst_bst, h0.1, h1.1, h2.1, h3.1, h.b4, (p 4 4 _ _ rfl (by omega)).1, (p 5 5 _ _ rfl (by omega)).1, (p 6 6 _ _ rfl (by omega)).1, (p 7 7 _ _ rfl (by omega)).1, (p 8 8 _ _ rfl (by omega)).1]
  exact ⟨rfl, (p 4 4 _ _ rfl (by omega)).2, h0.2, (p 5 5 _ _ rfl (by omega)).2, h1.2, (p 6 6 _ _ rfl (by omega)).2, h2.2, (p 7 7 _ _ rfl (by omega)).2, h3.2, (p 8 8 _ _ rfl (by omega)).2⟩
theorem l237_t {i p : Nat} (hi : i < 4) (hp : p < 12) (q : QG) (Q : QGP) (x y time v7 Tm : Int32) : pL_hears_L237 w q x y time v7 (nI i) (nI p) Tm (10 * nI i + 4) true g m a = q x y time (v7 + bz true) (nI (i + 1)) g (row6 m (10 * i) (bz true) Tm (a (5 * p + 0)) (a (5 * p + 2)) (a (5 * p + 3)) (a (5 * p + 4))) a ∧ (Q x y time (v7 + bz true) (nI (i + 1)) g (row6 m (10 * i) (bz true) Tm (a (5 * p + 0)) (a (5 * p + 2)) (a (5 * p + 3)) (a (5 * p + 4))) a → kL_hears_L237 w Q x y time v7 (nI i) (nI p) Tm (10 * nI i + 4) true g m a) := by
  obtain ⟨i4, j4⟩ := ixM (i := i) (k := 4) (kk := 4) rfl hi (by omega)
  obtain ⟨i5, j5⟩ := ixM (i := i) (k := 5) (kk := 5) rfl hi (by omega)
  obtain ⟨i6, j6⟩ := ixM (i := i) (k := 6) (kk := 6) rfl hi (by omega)
  obtain ⟨i7, j7⟩ := ixM (i := i) (k := 7) (kk := 7) rfl hi (by omega)
  obtain ⟨i8, j8⟩ := ixM (i := i) (k := 8) (kk := 8) rfl hi (by omega)
  obtain ⟨i9, j9⟩ := ixM (i := i) (k := 9) (kk := 9) rfl hi (by omega)
  obtain ⟨a0, c0⟩ := ixA0 hp
  obtain ⟨a2, c2⟩ := ixA (k := 2) (kk := 2) rfl hp (by omega)
  obtain ⟨a3, c3⟩ := ixA (k := 3) (kk := 3) rfl hp (by omega)
  obtain ⟨a4, c4⟩ := ixA (k := 4) (kk := 4) rfl hp (by omega)
  have hp0 : (0 : Int32) ≤ nI p := nI_pos' (by omega)
  unfold row6
  simp only [pL_hears_L237, kL_hears_L237, pL_hears_L275, kL_hears_L275, pL_hears_L304, kL_hears_L304, pL_hears_L333, kL_hears_L333, pL_hears_L362, kL_hears_L362, pL_hears_L375, kL_hears_L375, lt, if_pos hp0, i4, i5, i6, i7, i8, i9, a0, a2, a3, a4, j4, j5, j6, j7, j8, j9, c0, c2, c3, c4, true_and, nI_1]
  exact fun h => h
theorem l237_f {i : Nat} (hi : i < 4) (q : QG) (Q : QGP) (x y time v7 Tm : Int32) : pL_hears_L237 w q x y time v7 (nI i) (-1) Tm (10 * nI i + 4) false g m a = q x y time (v7 + bz false) (nI (i + 1)) g (row6 m (10 * i) (bz false) Tm (-1000000000) (-1000000000) (-1000000000) (-1000000000)) a ∧ (Q x y time (v7 + bz false) (nI (i + 1)) g (row6 m (10 * i) (bz false) Tm (-1000000000) (-1000000000) (-1000000000) (-1000000000)) a → kL_hears_L237 w Q x y time v7 (nI i) (-1) Tm (10 * nI i + 4) false g m a) := by
  obtain ⟨i4, j4⟩ := ixM (i := i) (k := 4) (kk := 4) rfl hi (by omega)
  obtain ⟨i5, j5⟩ := ixM (i := i) (k := 5) (kk := 5) rfl hi (by omega)
  obtain ⟨i6, j6⟩ := ixM (i := i) (k := 6) (kk := 6) rfl hi (by omega)
  obtain ⟨i7, j7⟩ := ixM (i := i) (k := 7) (kk := 7) rfl hi (by omega)
  obtain ⟨i8, j8⟩ := ixM (i := i) (k := 8) (kk := 8) rfl hi (by omega)
  obtain ⟨i9, j9⟩ := ixM (i := i) (k := 9) (kk := 9) rfl hi (by omega)
  have nm : ¬ (0 : Int32) ≤ -1 := by decide
  unfold row6
  simp only [pL_hears_L237, kL_hears_L237, pL_hears_L275, kL_hears_L275, pL_hears_L304, kL_hears_L304, pL_hears_L333, kL_hears_L333, pL_hears_L362, kL_hears_L362, pL_hears_L375, kL_hears_L375, lt, if_neg nm, i4, i5, i6, i7, i8, i9, j4, j5, j6, j7, j8, j9, true_and, nI_1]
  exact fun h => h
/-- what was noted: in the law's row, and as the class's note with the offset off -/
def notedR (has : Bool) (note off Tm c0 c1 c2 c3 : Int32) : Prop := (has = true ∧ note = Tm - off ∧ rg Tm (-1000) 402000) ∨ (has = false ∧ note = -1000000000 ∧ Tm = 0 ∧ c0 = -1000000000 ∧ c1 = -1000000000 ∧ c2 = -1000000000 ∧ c3 = -1000000000)
theorem mic_eq (h : BR C R M W N b g m w) {i : Nat} (hi : i < M) {x y time : Int32} (hx : rg x (-1000) 3000) (hy : rg y (-1000) 3000) (ht : rg time 0 100000) (t : TS) (a : Nat → Int32) (Q1 : QG) (Q1p : QGP) (v7 : Int32) :
    ∃ (t1 : TS) (b' : BS) (g' a' : Nat → Int32) (has : Bool) (note Tm c0 c1 c2 c3 : Int32), pX1_collect t b x y (nI i) = (t1, b) ∧ kX1_collect t b x y (nI i) ∧ pX6_listen t1 b (nI i) time = (t1, bst b' 0 (nI M, row5 (b.2 0) (i * 9) note c0 c1 c2 c3)) ∧ kX6_listen t1 b (nI i) time ∧ BR C R M W N b' g' m w ∧ sd b b' g g' ∧ notedR has note (b.2 0 (i * 9 + 3)) Tm c0 c1 c2 c3 ∧
      kL_lists g m w a x y (nI i) ∧ (bd (pL_lists g m w a x y (nI i)) fun (r4 : Int32) (u5 : Nat → Int32) => pL_hears_L44 w Q1 fu x y time v7 (nI i) r4 (-1) 0 0 g m u5) = Q1 x y time (v7 + bz has) (nI (i + 1)) g' (row6 m (10 * i) (bz has) Tm c0 c1 c2 c3) a' ∧
      (Q1p x y time (v7 + bz has) (nI (i + 1)) g' (row6 m (10 * i) (bz has) Tm c0 c1 c2 c3) a' → (bd (pL_lists g m w a x y (nI i)) fun (r4 : Int32) (u5 : Nat → Int32) => kL_hears_L44 w Q1p fu x y time v7 (nI i) r4 (-1) 0 0 g m u5)) := by
  have hl := h.le
  obtain ⟨⟨L, t1, a', e1, e2, hA⟩, k1, k2⟩ := collect_eq h hi hx hy t a
  rw [e2]
  simp only [bd]
  obtain ⟨b', g', best, lb, Tc, Tm, r1, r2, r3, r4, r5, r6, r7⟩ := listen_L (C := C) (R := R) (W := W) (N := N) (m := m) (w := w) (a := a') (L := L) (t := t1) (v := g 7) hi ht Q1 Q1p x y v7 fu 0 (by omega) (by have := fu_ge; have := hA.2.1; omega) b g (-1000000000) (-1) 0 0 h hA rfl (Or.inl ⟨rfl, rfl, rfl⟩)
  have r4 : pX6_listen t1 b (nI i) time = pX6_write t1 b' (nI i) best Tc := r4
  have r5 : kX6_write t1 b' (nI i) best Tc → kX6_listen t1 b (nI i) time := r5
  have r6 : pL_hears_L44 w Q1 fu x y time v7 (nI i) (nI L) (-1) 0 0 g m a' = pL_hears_L237 w Q1 x y time v7 (nI i) lb Tm (10 * nI i + 4) (decide (0 ≤ lb)) g' m a' := r6
  have r7 : kL_hears_L237 w Q1p x y time v7 (nI i) lb Tm (10 * nI i + 4) (decide (0 ≤ lb)) g' m a' → kL_hears_L44 w Q1p fu x y time v7 (nI i) (nI L) (-1) 0 0 g m a' := r7
  obtain ⟨A1, A3, A4⟩ := hA
  obtain ⟨c1, c2⟩ := at9m (k := 2) (kk := 2) r1 rfl hi (by omega)
  obtain ⟨d1, d2⟩ := at9 (k := 3) (kk := 3) r1 rfl hi (by omega)
  have e2' : b'.2 = b.2 := r2.e2
  have d1 := d1.trans (show b'.2 0 (i * 9 + 3) = b.2 0 (i * 9 + 3) by rw [e2'])
  unfold pX6_write at r4
  unfold kX6_write at r5
  simp only [lt, c1, d1] at r4 r5
  rcases r3 with ⟨e3, e4, e5⟩ | ⟨p, p1, p2, p6, p3, p4, p5⟩
  · subst e3 e4 e5
    have wq := w34_eq r1 hi (t := t1) (v := -1000000000) (x := -1000000000) at_no at_no at_no at_no
    rw [if_pos rfl, wq.1, e2'] at r4
    rw [if_pos rfl] at r5
    have hd : decide ((0 : Int32) ≤ -1) = false := by decide
    rw [hd] at r6 r7
    have z := l237_f (g := g') (m := m) (w := w) (a := a') (show i < 4 by omega) Q1 Q1p x y time v7 0
    exact ⟨t1, b', g', a', false, -1000000000, 0, -1000000000, -1000000000, -1000000000, -1000000000, e1, k1, r4, r5 ⟨c2, d2, wq.2⟩, r1, r2, Or.inr ⟨rfl, rfl, rfl, rfl, rfl, rfl, rfl⟩, k2, r6.trans z.1, fun hq => r7 (z.2 hq)⟩
  · subst p2 p6
    have hp12 : p < 12 := by omega
    obtain ⟨K, w9, T, s, K1, w1, T1, s1, r0', c0', r1', c1', r2', c2', r3', c3', r4', r5'⟩ := A4 p p1
    obtain ⟨f0, f1⟩ := at6 (c := 0) (cc := 0) A1 (show L ≤ 17 by omega) p1 rfl (by omega)
    obtain ⟨g0, g1⟩ := at6 (c := 3) (cc := 3) A1 (show L ≤ 17 by omega) p1 rfl (by omega)
    obtain ⟨j0, j1⟩ := at6 (c := 4) (cc := 4) A1 (show L ≤ 17 by omega) p1 rfl (by omega)
    obtain ⟨l0, l1⟩ := at6 (c := 5) (cc := 5) A1 (show L ≤ 17 by omega) p1 rfl (by omega)
    have wq := w34_eq r1 hi (t := t1) (v := nI p) (x := Tc + (m (10 * i + 2) - b.2 0 (i * 9 + 3))) ⟨f0.trans (r0'.trans c0'.symm), f1⟩ ⟨g0.trans (r3'.trans c3'.symm), g1⟩ ⟨j0.trans r4', j1⟩ ⟨l0.trans r5', l1⟩
    rw [if_neg (nI_nNO (by omega)), wq.1, e2'] at r4
    rw [if_neg (nI_nNO (by omega))] at r5
    have hd : decide ((0 : Int32) ≤ nI p) = true := decide_eq_true (nI_pos' (by omega))
    rw [hd] at r6 r7
    have z := l237_t (g := g') (m := m) (w := w) (a := a') (show i < 4 by omega) hp12 Q1 Q1p x y time v7 Tm
    obtain ⟨-, -, m2⟩ := h.mic hi
    have t1' := ht.1; have t2 := ht.2; have q1 := p3.1; have q2 := p3.2; have k1' := m2.1; have k2' := m2.2
    have e : Tc + (m (10 * i + 2) - b.2 0 (i * 9 + 3)) = Tm - b.2 0 (i * 9 + 3) := by
      rw [add_sub3, p4]
    exact ⟨t1, b', g', a', true, _, Tm, _, _, _, _, e1, k1, r4, r5 ⟨c2, d2, wq.2⟩, r1, r2, Or.inl ⟨rfl, e, by omega, by omega⟩, k2, r6.trans z.1, fun hq => r7 (z.2 hq)⟩
/-- a microphone's row behind a click: the class's, against the law's; off: what the class takes off -/
def rowC (b b' : BS) (m m' : Nat → Int32) (off : Int32) (i : Nat) : Prop := (∀ c, c < 4 → m' (10 * i + c) = m (10 * i + c)) ∧ (∀ c, c < 4 → b'.2 0 (i * 9 + (5 + c)) = m' (10 * i + (6 + c))) ∧ ((m' (10 * i + 4) = 1 ∧ b'.2 0 (i * 9 + 4) = m' (10 * i + 5) - off ∧ rg (m' (10 * i + 5)) (-1000) 402000) ∨ (m' (10 * i + 4) = 0 ∧ b'.2 0 (i * 9 + 4) = -1000000000 ∧ m' (10 * i + 5) = 0 ∧ ∀ c, c < 4 → m' (10 * i + (6 + c)) = -1000000000))
theorem rowC_of {i : Nat} {has : Bool} {note off Tm c0 c1 c2 c3 : Int32} {f : Nat → Int32} {b9 b' : BS} (hn : notedR has note off Tm c0 c1 c2 c3) (hb : ∀ c, 4 ≤ c → c < 9 → b'.2 0 (i * 9 + c) = row5 f (i * 9) note c0 c1 c2 c3 (i * 9 + c)) : rowC b9 b' m (row6 m (10 * i) (bz has) Tm c0 c1 c2 c3) off i := by
  obtain ⟨a4, a5, a6, a7, a8⟩ := row5_at (f := f) (a := i * 9) (x0 := note) (x1 := c0) (x2 := c1) (x3 := c2) (x4 := c3)
  obtain ⟨d4, d5, d6, d7, d8, d9⟩ := row6_at (f := m) (a := 10 * i) (y0 := bz has) (x0 := Tm) (x1 := c0) (x2 := c1) (x3 := c2) (x4 := c3)
  refine ⟨fun c hc => row6_ne (by omega), fun c hc => ?_, ?_⟩
  · rw [hb (5 + c) (by omega) (by omega)]
    have hc' : c = 0 ∨ c = 1 ∨ c = 2 ∨ c = 3 := by omega
    rcases hc' with rfl | rfl | rfl | rfl
    · exact a5.trans d6.symm
    · exact a6.trans d7.symm
    · exact a7.trans d8.symm
    · exact a8.trans d9.symm
  · rw [hb 4 (by omega) (by omega), a4, d4, d5]
    rcases hn with ⟨rfl, e2, e3⟩ | ⟨rfl, e2, e3, e4, e5, e6, e7⟩
    · exact Or.inl ⟨rfl, e2, e3⟩
    · refine Or.inr ⟨rfl, e2, e3, fun c hc => ?_⟩
      have hc' : c = 0 ∨ c = 1 ∨ c = 2 ∨ c = 3 := by omega
      rcases hc' with rfl | rfl | rfl | rfl
      · exact d6.trans e4
      · exact d7.trans e5
      · exact d8.trans e6
      · exact d9.trans e7
theorem noted_is (h : BR C R M W N b g m w) {i : Nat} (hi : i < M) {has : Bool} {note off Tm c0 c1 c2 c3 : Int32} (ho : rg off (-500000) 500000) (hn : notedR has note off Tm c0 c1 c2 c3) {b' : BS} (hb' : BR C R M W N b' g' m w) : pX2_hasNoted (bst b' 0 (nI M, row5 (b.2 0) (i * 9) note c0 c1 c2 c3)) (nI i) = has ∧ kX2_hasNoted (bst b' 0 (nI M, row5 (b.2 0) (i * 9) note c0 c1 c2 c3)) (nI i) := by
  have hl := h.le
  have e := at_in (w := 9) (c := M) (i := i) (k := 4) (cap := 8) (len := 72) (f := row5 (b.2 0) (i * 9) note c0 c1 c2 c3) (ii := nI i) (kk := 4) (wid := 9) rfl rfl rfl hi (by omega) (by omega) (by omega) (by omega) (by omega)
  have e1 : pX9_at 8 9 72 ((bst b' 0 (nI M, row5 (b.2 0) (i * 9) note c0 c1 c2 c3)).1 4, (bst b' 0 (nI M, row5 (b.2 0) (i * 9) note c0 c1 c2 c3)).2 0) (nI i) 4 = note := by
    rw [bst_t0]
    exact e.1.trans row5_at.1
  have e2 : kX9_at 8 9 72 ((bst b' 0 (nI M, row5 (b.2 0) (i * 9) note c0 c1 c2 c3)).1 4, (bst b' 0 (nI M, row5 (b.2 0) (i * 9) note c0 c1 c2 c3)).2 0) (nI i) 4 := by
    rw [bst_t0]
    exact e.2
  unfold pX2_hasNoted kX2_hasNoted
  rw [e1]
  refine ⟨?_, e2⟩
  rcases hn with ⟨rfl, e3, e4⟩ | ⟨rfl, e3, -⟩
  · rw [if_neg]
    intro e5
    have h3 : ((-1000000000 : Int32)).toInt = -1000000000 := by decide
    have h1 := e4.1; have h2 := e4.2; have o1 := ho.1; have o2 := ho.2
    have eI : (Tm - off).toInt = Tm.toInt - off.toInt := Kit.i32_sub (by omega) (by omega)
    rw [← e3, e5, h3] at eI
    omega
  · rw [if_pos e3]
end HEAR
