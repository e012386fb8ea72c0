/-! PURE: screens, mirrors, strengths -/
section SCREENS
variable {C R M W N : Nat} {b : BS} {S : Nat → Int32} {m : MS}
theorem jmin_ti (x y : Int32) : (jmin x y).toInt = min x.toInt y.toInt := by
  unfold jmin
  by_cases h : y < x
  · rw [if_pos h]; rw [fa_lt] at h; omega
  · rw [if_neg h]; rw [fa_lt] at h; omega
theorem jmax_ti (x y : Int32) : (jmax x y).toInt = max x.toInt y.toInt := by
  unfold jmax
  by_cases h : x < y
  · rw [if_pos h]; rw [fa_lt] at h; omega
  · rw [if_neg h]; rw [fa_lt] at h; omega
theorem jminL_ti (x y : Int64) : (jminL x y).toInt = min x.toInt y.toInt := by
  unfold jminL
  by_cases h : y < x
  · rw [if_pos h]; rw [fa_lt64] at h; omega
  · rw [if_neg h]; rw [fa_lt64] at h; omega
theorem jmaxL_ti (x y : Int64) : (jmaxL x y).toInt = max x.toInt y.toInt := by
  unfold jmaxL
  by_cases h : y < x
  · rw [if_pos h]; rw [fa_lt64] at h; omega
  · rw [if_neg h]; rw [fa_lt64] at h; omega
theorem l_sub {x y : Int32} (hx : rg x (-20000) 20000) (hy : rg y (-20000) 20000) : (x - y).toInt64 = x.toInt64 - y.toInt64 ∧ (x.toInt64 - y.toInt64).toInt = x.toInt - y.toInt := by
  obtain ⟨x1, x2⟩ := hx
  obtain ⟨y1, y2⟩ := hy
  have e : (x.toInt64 - y.toInt64).toInt = x.toInt - y.toInt := by
    rw [Kit.i64_sub (by rw [Int32.toInt_toInt64, Int32.toInt_toInt64]; omega) (by rw [Int32.toInt_toInt64, Int32.toInt_toInt64]; omega), Int32.toInt_toInt64, Int32.toInt_toInt64]
  refine ⟨?_, e⟩
  apply Int64.toInt_inj.mp
  rw [e, Int32.toInt_toInt64, Kit.i32_sub (by omega) (by omega)]
theorem mul_b {x y : Int} {p q : Nat} (hx : x.natAbs ≤ p) (hy : y.natAbs ≤ q) : (x * y).natAbs ≤ p * q := by
  rw [Int.natAbs_mul]
  exact Nat.mul_le_mul hx hy
theorem l_mul {x y : Int64} (hx : x.toInt.natAbs ≤ 100000) (hy : y.toInt.natAbs ≤ 100000) : (x * y).toInt = x.toInt * y.toInt ∧ (x.toInt * y.toInt).natAbs ≤ 10000000000 := by
  have h := mul_b hx hy
  refine ⟨Kit.i64_mul (by omega) (by omega), by omega⟩
theorem cross_eq {px py qx qy c a z : Int32} (h1 : rg px (-20000) 20000) (h2 : rg py (-20000) 20000) (h3 : rg qx (-20000) 20000) (h4 : rg qy (-20000) 20000) (h5 : rg c (-20000) 20000) (h6 : rg a (-20000) 20000) (h7 : rg z (-20000) 20000) (haz : a.toInt < z.toInt) : pX7_crosses px py qx qy c a z = pX12_takes c a z px py qx qy := by
  obtain ⟨e1, e2⟩ := l_sub h3 h1
  obtain ⟨e3, e4⟩ := l_sub h5 h1
  obtain ⟨e5, e6⟩ := l_sub h4 h2
  unfold pX7_crosses pX12_takes pX12_takes_L11 pX12_takes_L24 pX12_takes_L92
  simp only [lt]
  rw [e1, e3, e5, Int64.mul_comm (c.toInt64 - px.toInt64)]
  have hA : (a.toInt64 * (qx.toInt64 - px.toInt64)).toInt = a.toInt * (qx.toInt - px.toInt) := by
    have := (l_mul (x := a.toInt64) (y := qx.toInt64 - px.toInt64) (by rw [Int32.toInt_toInt64]; have := h6.1; have := h6.2; omega) (by rw [e2]; have := h3.1; have := h3.2; have := h1.1; have := h1.2; omega)).1
    rw [this, Int32.toInt_toInt64, e2]
  have hB : (z.toInt64 * (qx.toInt64 - px.toInt64)).toInt = z.toInt * (qx.toInt - px.toInt) := by
    have := (l_mul (x := z.toInt64) (y := qx.toInt64 - px.toInt64) (by rw [Int32.toInt_toInt64]; have := h7.1; have := h7.2; omega) (by rw [e2]; have := h3.1; have := h3.2; have := h1.1; have := h1.2; omega)).1
    rw [this, Int32.toInt_toInt64, e2]
  have hAB : (0 < qx.toInt - px.toInt → a.toInt * (qx.toInt - px.toInt) ≤ z.toInt * (qx.toInt - px.toInt)) ∧ (qx.toInt - px.toInt < 0 → z.toInt * (qx.toInt - px.toInt) ≤ a.toInt * (qx.toInt - px.toInt)) := by
    refine ⟨fun h => Int.mul_le_mul_of_nonneg_right (by omega) (by omega), fun h => Int.mul_le_mul_of_nonpos_right (by omega) (by omega)⟩
  have hm1 := jmin_ti px qx
  have hm2 := jmax_ti px qx
  have hm3 := jminL_ti (a.toInt64 * (qx.toInt64 - px.toInt64)) (z.toInt64 * (qx.toInt64 - px.toInt64))
  have hm4 := jmaxL_ti (a.toInt64 * (qx.toInt64 - px.toInt64)) (z.toInt64 * (qx.toInt64 - px.toInt64))
  have z0 : ((0 : Int64)).toInt = 0 := rfl
  simp only [fa_lt, fa_le, fa_lt64, fa_le64, hm1, hm2, hm3, hm4, hA, hB, e2, z0]
  generalize a.toInt * (qx.toInt - px.toInt) = A at *
  generalize z.toInt * (qx.toInt - px.toInt) = B at *
  generalize (py.toInt64 * (qx.toInt64 - px.toInt64) + (qy.toInt64 - py.toInt64) * (c.toInt64 - px.toInt64)).toInt = T at *
  repeat' split
  all_goals first | rfl | (exfalso; omega)
theorem scr_ix {q k : Nat} (hq : q < 4) (hk : k < 4) : (106 + 4 * nI q : Int32) = nI (106 + 4 * q) ∧ nI (106 + 4 * q) + nI k = nI (106 + 4 * q + k) ∧ (nI (106 + 4 * q + k)).toNatClampNeg = 106 + 4 * q + k ∧ vp_in (nI (106 + 4 * q + k)) 122 := by
  refine ⟨?_, nI_add _ _, nI_clamp (by omega), vp_in_n (by omega) (by omega)⟩
  rw [show (4 : Int32) = nI 4 from rfl, show (106 : Int32) = nI 106 from rfl, pk_mul, nI_add]
theorem taken_t (h : BR C R M W N b (m.2.2 0)) {i : Nat} (hi : i < M) (x y : Int32) : ∀ (n q : Nat), q ≤ N → N - q < n → pX12_isTaken_L6 m n x y (nI i) true (nI q) = true ∧ kX12_isTaken_L6 m n x y (nI i) true (nI q) := by
  have hl := h.le
  obtain ⟨c1, c2⟩ := of_eq (m := m) (i := i) (k := 0) (kk := 0) rfl (by omega) (by omega)
  obtain ⟨d1, d2⟩ := of_eq (m := m) (i := i) (k := 1) (kk := 1) rfl (by omega) (by omega)
  intro n
  induction n with
  | zero => intro q h1 h2; omega
  | succ n ih =>
    intro q h1 h2
    show bX12_isTaken_L6 m (pX12_isTaken_L6 m n) _ _ _ _ _ = _ ∧ kbX12_isTaken_L6 m (kX12_isTaken_L6 m n) _ _ _ _ _
    unfold bX12_isTaken_L6 kbX12_isTaken_L6
    rw [h.eN]
    by_cases e : q = N
    · subst e
      rw [if_pos (nI_le (Nat.le_refl _) (by omega)), if_pos (nI_le (Nat.le_refl _) (by omega))]
      exact ⟨rfl, trivial⟩
    · rw [if_neg (nI_ge (a := q) (by omega) (by omega)), if_neg (nI_ge (a := q) (by omega) (by omega))]
      obtain ⟨f1, -, f3, f4⟩ := scr_ix (q := q) (k := 0) (by omega) (by omega)
      have g := ih (q + 1) (by omega) (by omega)
      simp only [lt, pX12_isTaken_L42, pX12_isTaken_L142, pX12_isTaken_L147, kX12_isTaken_L42, kX12_isTaken_L142, kX12_isTaken_L147, if_true, ite_self, nI_1]
      rw [f1]
      exact ⟨g.1, f4, c2, d2, g.2⟩
theorem scr_L (h : BR C R M W N b (m.2.2 0)) {i : Nat} (hi : i < M) {x y : Int32} (hx : rg x (-1000) 3000) (hy : rg y (-1000) 3000) : ∀ (n q : Nat), q ≤ N → N - q < n → pX2_isScreened_L25 b n x y (m.2.2 0 (14 + 10 * i + 0)) (m.2.2 0 (14 + 10 * i + 1)) (nI q) = pX12_isTaken_L6 m n x y (nI i) false (nI q) ∧ kX2_isScreened_L25 b n x y (m.2.2 0 (14 + 10 * i + 0)) (m.2.2 0 (14 + 10 * i + 1)) (nI q) ∧ kX12_isTaken_L6 m n x y (nI i) false (nI q) := by
  have hl := h.le
  obtain ⟨c1, c2⟩ := of_eq (m := m) (i := i) (k := 0) (kk := 0) rfl (by omega) (by omega)
  obtain ⟨d1, d2⟩ := of_eq (m := m) (i := i) (k := 1) (kk := 1) rfl (by omega) (by omega)
  intro n
  induction n with
  | zero => intro q h1 h2; omega
  | succ n ih =>
    intro q h1 h2
    show bX2_isScreened_L25 b (pX2_isScreened_L25 b n) _ _ _ _ _ = bX12_isTaken_L6 m (pX12_isTaken_L6 m n) _ _ _ _ _ ∧ kbX2_isScreened_L25 b (kX2_isScreened_L25 b n) _ _ _ _ _ ∧ kbX12_isTaken_L6 m (kX12_isTaken_L6 m n) _ _ _ _ _
    unfold bX12_isTaken_L6 kbX12_isTaken_L6 bX2_isScreened_L25 kbX2_isScreened_L25
    rw [h.eN, h.b6]
    by_cases e : q = N
    · subst e
      simp only [if_pos (nI_le (Nat.le_refl q) (show q < 2 ^ 31 by omega))]
      exact ⟨trivial, trivial, trivial⟩
    · have hqN : q < N := by omega
      simp only [if_neg (nI_ge hqN (by omega))]
      obtain ⟨f1, -, f3, f4⟩ := scr_ix (q := q) (k := 0) (by omega) (by omega)
      obtain ⟨-, g1, g2, g3⟩ := scr_ix (q := q) (k := 1) (by omega) (by omega)
      obtain ⟨-, j1, j2, j3⟩ := scr_ix (q := q) (k := 2) (by omega) (by omega)
      obtain ⟨-, l1, l2, l3⟩ := scr_ix (q := q) (k := 3) (by omega) (by omega)
      obtain ⟨p1, p2⟩ := at4 (k := 0) (kk := 0) h rfl hqN (by omega)
      obtain ⟨q1, q2⟩ := at4 (k := 1) (kk := 1) h rfl hqN (by omega)
      obtain ⟨r1, r2⟩ := at4 (k := 2) (kk := 2) h rfl hqN (by omega)
      obtain ⟨s1, s2⟩ := at4 (k := 3) (kk := 3) h rfl hqN (by omega)
      rw [h.b6] at p1 p2 q1 q2 r1 r2 s1 s2
      obtain ⟨t0, t1, t2, t3, t4⟩ := h.scr hqN
      obtain ⟨m0, m1, -⟩ := h.mic hi
      have g := ih (q + 1) (by omega) (by omega)
      have gt := taken_t h hi x y n (q + 1) (by omega) (by omega)
      have w : ∀ {z : Int32}, rg z (-1000) 3000 → rg z (-20000) 20000 := fun hz => ⟨by have := hz.1; omega, by have := hz.2; omega⟩
      have w2 : ∀ {z : Int32}, rg z (-500) 2500 → rg z (-20000) 20000 := fun hz => ⟨by have := hz.1; omega, by have := hz.2; omega⟩
      have k1 := cross_eq (w hx) (w hy) (w2 m0) (w2 m1) (w t1) (w t2) (w t3) t4
      have k2 := cross_eq (w hy) (w hx) (w2 m1) (w2 m0) (w t1) (w t2) (w t3) t4
      simp only [lt, p1, q1, r1, s1, p2, q2, r2, s2, f1, c1, d1, c2, d2, k1, k2, true_and, pX2_isScreened_L119, kX2_isScreened_L119, pX12_isTaken_L42, kX12_isTaken_L42, pX12_isTaken_L102, kX12_isTaken_L102, pX12_isTaken_L112, kX12_isTaken_L112, pX12_isTaken_L124, kX12_isTaken_L124, pX12_isTaken_L136, kX12_isTaken_L136, pX12_isTaken_L142, kX12_isTaken_L142, pX12_isTaken_L147, kX12_isTaken_L147]
      rw [show nI (106 + 4 * q) + 1 = nI (106 + 4 * q + 1) from g1, show nI (106 + 4 * q) + 2 = nI (106 + 4 * q + 2) from j1, show nI (106 + 4 * q) + 3 = nI (106 + 4 * q + 3) from l1, show (nI (106 + 4 * q)).toNatClampNeg = 106 + 4 * q + 0 from f3, g2, j2, l2]
      simp only [show vp_in (nI (106 + 4 * q)) 122 from f4, g3, j3, l3, true_and, nI_1]
      rcases t0 with t0 | t0
      · rw [t0]
        simp only [if_true, if_neg (show ¬ ((0 : Int32) = 1) by decide), Bool.false_eq_true, if_false]
        by_cases v : pX12_takes (m.2.2 0 (106 + 4 * q + 1)) (m.2.2 0 (106 + 4 * q + 2)) (m.2.2 0 (106 + 4 * q + 3)) x y (m.2.2 0 (14 + 10 * i + 0)) (m.2.2 0 (14 + 10 * i + 1)) = true
        · simp only [if_pos v]
          exact ⟨gt.1.symm, trivial, gt.2⟩
        · simp only [if_neg v]
          exact g
      · rw [t0]
        simp only [if_true, if_neg (show ¬ ((1 : Int32) = 0) by decide), Bool.false_eq_true, if_false]
        by_cases v : pX12_takes (m.2.2 0 (106 + 4 * q + 1)) (m.2.2 0 (106 + 4 * q + 2)) (m.2.2 0 (106 + 4 * q + 3)) y x (m.2.2 0 (14 + 10 * i + 1)) (m.2.2 0 (14 + 10 * i + 0)) = true
        · simp only [if_pos v]
          exact ⟨gt.1.symm, trivial, gt.2⟩
        · simp only [if_neg v]
          exact g
theorem scr_eq (h : BR C R M W N b (m.2.2 0)) {i : Nat} (hi : i < M) {x y : Int32} (hx : rg x (-1000) 3000) (hy : rg y (-1000) 3000) : pX2_isScreened b x y (nI i) = pX12_isTaken m x y (nI i) ∧ kX2_isScreened b x y (nI i) ∧ kX12_isTaken m x y (nI i) := by
  have hl := h.le
  obtain ⟨a1, a2⟩ := at9m (k := 0) (kk := 0) h rfl hi (by omega)
  obtain ⟨b1, b2⟩ := at9m (k := 1) (kk := 1) h rfl hi (by omega)
  have g := scr_L h hi hx hy fu 0 (by omega) (by have := fu_ge; omega)
  unfold pX2_isScreened kX2_isScreened pX12_isTaken kX12_isTaken
  simp only [lt]
  rw [a1, b1]
  exact ⟨g.1, ⟨a2, b2, g.2.1⟩, g.2.2⟩
theorem wall_ix {q k : Nat} (hq : q < 4) (hk : k < 3) : (94 + 3 * nI q : Int32) = nI (94 + 3 * q) ∧ nI (94 + 3 * q) + nI k = nI (94 + 3 * q + k) ∧ (nI (94 + 3 * q + k)).toNatClampNeg = 94 + 3 * q + k ∧ vp_in (nI (94 + 3 * q + k)) 122 := by
  refine ⟨?_, nI_add _ _, nI_clamp (by omega), vp_in_n (by omega) (by omega)⟩
  rw [show (3 : Int32) = nI 3 from rfl, show (94 : Int32) = nI 94 from rfl, pk_mul, nI_add]
theorem mir_rg {c x : Int32} {d : Int} (h0 : 0 ≤ d) (h1 : d ≤ 4000) (hc : rg c (-1000) 3000) (hx : rg x (-1000 - d) (3000 + d)) : rg (2 * c - x) (-5000 - d) (7000 + d) ∧ rg x (-5000 - d) (7000 + d) := by
  obtain ⟨c1, c2⟩ := hc
  obtain ⟨x1, x2⟩ := hx
  have e2 : ((2 : Int32)).toInt = 2 := rfl
  have e : (2 * c).toInt = 2 * c.toInt := by rw [Kit.i32_mul (by rw [e2]; omega) (by rw [e2]; omega), e2]
  refine ⟨?_, by omega, by omega⟩
  unfold rg
  rw [Kit.i32_sub (by omega) (by omega), e]
  omega
theorem mirX_eq (h : BR C R M W N b (m.2.2 0)) {j : Nat} (hj : j < W) {x : Int32} {d : Int} (h0 : 0 ≤ d) (h1 : d ≤ 4000) (hx : rg x (-1000 - d) (3000 + d)) : pX2_mirroredX b (nI j) x = pX12_mirroredX m (nI j) x ∧ rg (pX12_mirroredX m (nI j) x) (-5000 - d) (7000 + d) ∧ kX2_mirroredX b (nI j) x ∧ kX12_mirroredX m (nI j) x := by
  have hl := h.le
  obtain ⟨f1, -, f3, f4⟩ := wall_ix (q := j) (k := 0) (by omega) (by omega)
  obtain ⟨-, g1, g2, g3⟩ := wall_ix (q := j) (k := 1) (by omega) (by omega)
  obtain ⟨p1, p2⟩ := at3 (k := 0) (kk := 0) h rfl hj (by omega)
  obtain ⟨q1, q2⟩ := at3 (k := 1) (kk := 1) h rfl hj (by omega)
  obtain ⟨t0, t1, t2⟩ := h.wall hj
  have hm := mir_rg h0 h1 t1 hx
  unfold pX2_mirroredX kX2_mirroredX pX12_mirroredX kX12_mirroredX
  simp only [lt]
  rw [p1, q1, f1, show nI (94 + 3 * j) + 1 = nI (94 + 3 * j + 1) from g1, show (nI (94 + 3 * j)).toNatClampNeg = 94 + 3 * j + 0 from f3, g2]
  refine ⟨rfl, ?_, ⟨p2, ?_⟩, f4, ?_⟩
  · split
    · exact hm.1
    · exact hm.2
  · split
    · exact q2
    · trivial
  · split
    · exact g3
    · trivial
theorem mirY_eq (h : BR C R M W N b (m.2.2 0)) {j : Nat} (hj : j < W) {x : Int32} {d : Int} (h0 : 0 ≤ d) (h1 : d ≤ 4000) (hx : rg x (-1000 - d) (3000 + d)) : pX2_mirroredY b (nI j) x = pX12_mirroredY m (nI j) x ∧ rg (pX12_mirroredY m (nI j) x) (-5000 - d) (7000 + d) ∧ kX2_mirroredY b (nI j) x ∧ kX12_mirroredY m (nI j) x := by
  have hl := h.le
  obtain ⟨f1, -, f3, f4⟩ := wall_ix (q := j) (k := 0) (by omega) (by omega)
  obtain ⟨-, g1, g2, g3⟩ := wall_ix (q := j) (k := 1) (by omega) (by omega)
  obtain ⟨p1, p2⟩ := at3 (k := 0) (kk := 0) h rfl hj (by omega)
  obtain ⟨q1, q2⟩ := at3 (k := 1) (kk := 1) h rfl hj (by omega)
  obtain ⟨t0, t1, t2⟩ := h.wall hj
  have hm := mir_rg h0 h1 t1 hx
  unfold pX2_mirroredY kX2_mirroredY pX12_mirroredY kX12_mirroredY
  simp only [lt]
  rw [p1, q1, f1, show nI (94 + 3 * j) + 1 = nI (94 + 3 * j + 1) from g1, show (nI (94 + 3 * j)).toNatClampNeg = 94 + 3 * j + 0 from f3, g2]
  rcases t0 with t0 | t0
  · rw [t0]
    simp only [if_true, if_neg (show ¬ ((0 : Int32) = 1) by decide)]
    exact ⟨trivial, hm.2, ⟨p2, trivial⟩, f4, trivial⟩
  · rw [t0]
    simp only [if_true, if_neg (show ¬ ((1 : Int32) = 0) by decide)]
    exact ⟨trivial, hm.1, ⟨p2, q2⟩, f4, g3⟩
theorem str_eq {r : Nat} (hr : r ≤ 30000) : ∃ s : Nat, s ≤ 1000 ∧ pX7_strength (nI r) = nI s ∧ 100000 / (nI r + 100) = nI s ∧ kX7_strength (nI r) ∧ ¬ nI r + 100 = 0 := by
  unfold pX7_strength kX7_strength
  rw [if_pos (nI_pos' (by omega)), if_pos (nI_pos' (by omega)), show (100 : Int32) = nI 100 from rfl, show (100000 : Int32) = nI 100000 from rfl, nI_add, pk_div (by omega) (by omega) (by omega)]
  refine ⟨_, ?_, rfl, rfl, nI_ne0 (by omega) (by omega), nI_ne0 (by omega) (by omega)⟩
  have : 100000 / (r + 100) ≤ 100000 / 100 := Nat.div_le_div_left (by omega) (by omega)
  omega
def okIx (W : Nat) (w : Int32) : Prop := w = -1000000000 ∨ ∃ j : Nat, j < W ∧ w = nI j
theorem nI_nNO {j : Nat} (h : j < 2 ^ 31) : ¬ nI j = -1000000000 := fun e => by
  have e2 := nI_toInt h
  rw [e] at e2
  have e3 : ((-1000000000 : Int32)).toInt = -1000000000 := by decide
  omega
theorem weak_eq (h : BR C R M W N b (m.2.2 0)) {s : Nat} (hs : s ≤ 1000) {w : Int32} (hw : okIx W w) : ∃ t : Nat, t ≤ 1000 ∧ pX2_strengthBehind b w (nI s) = nI t ∧ pX12_weaker m (nI s) w = nI t ∧ kX2_strengthBehind b w (nI s) ∧ kX12_weaker m (nI s) w := by
  have hl := h.le
  unfold pX2_strengthBehind kX2_strengthBehind pX12_weaker kX12_weaker
  rw [h.b5, has_eq (by omega)]
  rcases hw with hw | ⟨j, hj, hw⟩
  · subst hw
    have e3 : ((-1000000000 : Int32)).toInt = -1000000000 := by decide
    rw [e3]
    simp only [show ¬ ((0 : Int) ≤ -1000000000 ∧ (-1000000000 : Int) < W) by omega, decide_false, Bool.false_eq_true, if_false, if_true]
    exact ⟨s, hs, rfl, rfl, trivial, trivial⟩
  · subst hw
    obtain ⟨g0, -, -, -⟩ := wall_ix (q := j) (k := 0) (by omega) (by omega)
    obtain ⟨-, g1, g2, g3⟩ := wall_ix (q := j) (k := 2) (by omega) (by omega)
    obtain ⟨q1, q2⟩ := at3 (k := 2) (kk := 2) h rfl hj (by omega)
    rw [h.b5] at q1 q2
    obtain ⟨-, -, t2⟩ := h.wall hj
    obtain ⟨l, hl2, hle⟩ := nI_rg (n := 100) t2
    have e := nI_toInt (n := j) (by omega)
    have e4 : (100 : Int32) - nI l = nI (100 - l) := pk_sub (a := 100) (by omega)
    simp only [show (0 ≤ (nI j).toInt ∧ (nI j).toInt < W) by omega, decide_true, if_true, if_neg (nI_nNO (j := j) (by omega))]
    rw [q1, g0, show nI (94 + 3 * j) + 2 = nI (94 + 3 * j + 2) from g1, g2, hle, e4, pk_mul]
    have hb : s * (100 - l) ≤ s * 100 := Nat.mul_le_mul_left s (by omega)
    rw [show (100 : Int32) = nI 100 from rfl, pk_div (by omega) (by omega) (by omega)]
    refine ⟨_, ?_, rfl, rfl, q2, g3⟩
    have : s * (100 - l) / 100 ≤ s * 100 / 100 := Nat.div_le_div_right hb
    omega
end SCREENS
