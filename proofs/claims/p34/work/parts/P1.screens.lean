/-! PURE: screens, mirrors, strengths -/
section SCREENS
variable {C R M W N : Nat} {b : BS} {g m w : Nat → Int32}
theorem jmin_ti (x y : Int32) : (jmin x y).toInt = min x.toInt y.toInt := by
  unfold jmin
  by_cases h : y < x
  · rw [if_pos h]; rw [fa_lt] at h; omega
  · rw [if_neg h]; rw [fa_lt] at h; omega
theorem jmax_ti (x y : Int32) : (jmax x y).toInt = max x.toInt y.toInt := by
  unfold jmax
  by_cases h : x < y
  · rw [if_pos h]; rw [fa_lt] at h; omega
  · rw [if_neg h]; rw [fa_lt] at h; omega
theorem jminL_ti (x y : Int64) : (jminL x y).toInt = min x.toInt y.toInt := by
  unfold jminL
  by_cases h : y < x
  · rw [if_pos h]; rw [fa_lt64] at h; omega
  · rw [if_neg h]; rw [fa_lt64] at h; omega
theorem jmaxL_ti (x y : Int64) : (jmaxL x y).toInt = max x.toInt y.toInt := by
  unfold jmaxL
  by_cases h : y < x
  · rw [if_pos h]; rw [fa_lt64] at h; omega
  · rw [if_neg h]; rw [fa_lt64] at h; omega
theorem l_sub {x y : Int32} (hx : rg x (-20000) 20000) (hy : rg y (-20000) 20000) : (x - y).toInt64 = x.toInt64 - y.toInt64 ∧ (x.toInt64 - y.toInt64).toInt = x.toInt - y.toInt := by
  obtain ⟨x1, x2⟩ := hx
  obtain ⟨y1, y2⟩ := hy
  have e : (x.toInt64 - y.toInt64).toInt = x.toInt - y.toInt := by
    rw [Kit.i64_sub (by rw [Int32.toInt_toInt64, Int32.toInt_toInt64]; omega) (by rw [Int32.toInt_toInt64, Int32.toInt_toInt64]; omega), Int32.toInt_toInt64, Int32.toInt_toInt64]
  refine ⟨?_, e⟩
  apply Int64.toInt_inj.mp
  rw [e, Int32.toInt_toInt64, Kit.i32_sub (by omega) (by omega)]
theorem mul_b {x y : Int} {p q : Nat} (hx : x.natAbs ≤ p) (hy : y.natAbs ≤ q) : (x * y).natAbs ≤ p * q := by
  rw [Int.natAbs_mul]
  exact Nat.mul_le_mul hx hy
theorem l_mul {x y : Int64} (hx : x.toInt.natAbs ≤ 100000) (hy : y.toInt.natAbs ≤ 100000) : (x * y).toInt = x.toInt * y.toInt ∧ (x.toInt * y.toInt).natAbs ≤ 10000000000 := by
  have h := mul_b hx hy
  refine ⟨Kit.i64_mul (by omega) (by omega), by omega⟩
theorem l_sm2 {x y z u : Int64} (h1 : x.toInt.natAbs ≤ 100000) (h2 : y.toInt.natAbs ≤ 100000) (h3 : z.toInt.natAbs ≤ 100000) (h4 : u.toInt.natAbs ≤ 100000) : (x * y + z * u).toInt = x.toInt * y.toInt + z.toInt * u.toInt := by
  obtain ⟨a1, a2⟩ := l_mul h1 h2
  obtain ⟨c1, c2⟩ := l_mul h3 h4
  rw [Kit.i64_add (by rw [a1, c1]; omega) (by rw [a1, c1]; omega), a1, c1]
theorem t_id (p P q Q c : Int) : P * (q - p) + (Q - P) * (c - p) = (q - c) * P + (c - p) * Q := by
  have e1 : (q - c) * P = P * q - P * c := by rw [Int.sub_mul, Int.mul_comm q P, Int.mul_comm c P]
  have e2 : (c - p) * Q = Q * c - Q * p := by rw [Int.sub_mul, Int.mul_comm c Q, Int.mul_comm p Q]
  have e3 : P * (q - p) = P * q - P * p := Int.mul_sub _ _ _
  have e4 : (Q - P) * (c - p) = Q * c - Q * p - (P * c - P * p) := by rw [Int.sub_mul, Int.mul_sub, Int.mul_sub]
  omega
theorem t_neg (p P q Q c : Int) : (p - c) * Q + (c - q) * P = -((q - c) * P + (c - p) * Q) := by
  have e1 : (q - c) * P = q * P - c * P := Int.sub_mul _ _ _
  have e2 : (c - p) * Q = c * Q - p * Q := Int.sub_mul _ _ _
  have e3 : (p - c) * Q = p * Q - c * Q := Int.sub_mul _ _ _
  have e4 : (c - q) * P = c * P - q * P := Int.sub_mul _ _ _
  omega
theorem m_neg (a p q : Int) : a * (p - q) = -(a * (q - p)) := by
  rw [Int.mul_sub, Int.mul_sub]
  omega
theorem cross_eq {px py qx qy c a z : Int32} (h1 : rg px (-20000) 20000) (h2 : rg py (-20000) 20000) (h3 : rg qx (-20000) 20000) (h4 : rg qy (-20000) 20000) (h5 : rg c (-20000) 20000) (h6 : rg a (-20000) 20000) (h7 : rg z (-20000) 20000) (haz : a.toInt < z.toInt) : pX7_crosses px py qx qy c a z = pL_takes c a z px py qx qy := by
  have Bd : ∀ {u : Int32}, rg u (-20000) 20000 → u.toInt64.toInt.natAbs ≤ 100000 := fun h => by
    rw [Int32.toInt_toInt64]
    have := h.1; have := h.2
    omega
  have Dd : ∀ {u v : Int32}, rg u (-20000) 20000 → rg v (-20000) 20000 → (u.toInt64 - v.toInt64).toInt.natAbs ≤ 100000 := fun hu hv => by
    rw [(l_sub hu hv).2]
    have := hu.1; have := hu.2; have := hv.1; have := hv.2
    omega
  have T1 := l_sm2 (Bd h2) (Dd h3 h1) (Dd h4 h2) (Dd h5 h1)
  have T2 := l_sm2 (Dd h3 h5) (Bd h2) (Dd h5 h1) (Bd h4)
  have T3 := l_sm2 (Dd h1 h5) (Bd h4) (Dd h5 h3) (Bd h2)
  have A1 := (l_mul (Bd h6) (Dd h3 h1)).1
  have A2 := (l_mul (Bd h7) (Dd h3 h1)).1
  have A3 := (l_mul (Bd h6) (Dd h1 h3)).1
  have A4 := (l_mul (Bd h7) (Dd h1 h3)).1
  rw [(l_sub h3 h1).2, (l_sub h4 h2).2, (l_sub h5 h1).2, Int32.toInt_toInt64, t_id] at T1
  rw [(l_sub h3 h5).2, (l_sub h5 h1).2, Int32.toInt_toInt64, Int32.toInt_toInt64] at T2
  rw [(l_sub h1 h5).2, (l_sub h5 h3).2, Int32.toInt_toInt64, Int32.toInt_toInt64, t_neg] at T3
  rw [(l_sub h3 h1).2, Int32.toInt_toInt64] at A1
  rw [(l_sub h3 h1).2, Int32.toInt_toInt64] at A2
  rw [(l_sub h1 h3).2, Int32.toInt_toInt64, m_neg] at A3
  rw [(l_sub h1 h3).2, Int32.toInt_toInt64, m_neg] at A4
  have hAB : (0 < qx.toInt - px.toInt → a.toInt * (qx.toInt - px.toInt) ≤ z.toInt * (qx.toInt - px.toInt)) ∧ (qx.toInt - px.toInt < 0 → z.toInt * (qx.toInt - px.toInt) ≤ a.toInt * (qx.toInt - px.toInt)) := by
    refine ⟨fun h => Int.mul_le_mul_of_nonneg_right (by omega) (by omega), fun h => Int.mul_le_mul_of_nonpos_right (by omega) (by omega)⟩
  have hm1 := jmin_ti px qx
  have hm2 := jmax_ti px qx
  have hm3 := jminL_ti (a.toInt64 * (qx.toInt64 - px.toInt64)) (z.toInt64 * (qx.toInt64 - px.toInt64))
  have hm4 := jmaxL_ti (a.toInt64 * (qx.toInt64 - px.toInt64)) (z.toInt64 * (qx.toInt64 - px.toInt64))
  unfold pX7_crosses pL_takes pL_takesUp
  simp only [lt, (l_sub h3 h1).1, (l_sub h3 h5).1, (l_sub h5 h1).1, (l_sub h1 h3).1, (l_sub h1 h5).1, (l_sub h5 h3).1]
  simp only [fa_lt, fa_le, fa_lt64, fa_le64, hm1, hm2, hm3, hm4, T1, T2, T3, A1, A2, A3, A4]
  generalize a.toInt * (qx.toInt - px.toInt) = A at *
  generalize z.toInt * (qx.toInt - px.toInt) = B at *
  generalize (qx.toInt - c.toInt) * py.toInt + (c.toInt - px.toInt) * qy.toInt = T at *
  repeat' split
  all_goals first | rfl | (exfalso; omega)
theorem mir_rg {c x : Int32} {d : Int} (h0 : 0 ≤ d) (h1 : d ≤ 4000) (hc : rg c (-1000) 3000) (hx : rg x (-1000 - d) (3000 + d)) : rg (2 * c - x) (-5000 - d) (7000 + d) ∧ rg x (-5000 - d) (7000 + d) := by
  obtain ⟨c1, c2⟩ := hc
  obtain ⟨x1, x2⟩ := hx
  have e2 : ((2 : Int32)).toInt = 2 := rfl
  have e : (2 * c).toInt = 2 * c.toInt := by rw [Kit.i32_mul (by rw [e2]; omega) (by rw [e2]; omega), e2]
  refine ⟨?_, by omega, by omega⟩
  unfold rg
  rw [Kit.i32_sub (by omega) (by omega), e]
  omega
def mX (w : Nat → Int32) (p : Nat) (x : Int32) : Int32 := if w (3 * p + 0) = 1 then x else 2 * w (3 * p + 1) - x
def mY (w : Nat → Int32) (p : Nat) (y : Int32) : Int32 := if w (3 * p + 0) = 0 then y else 2 * w (3 * p + 1) - y
theorem mirX_eq (h : BR C R M W N b g m w) {j : Nat} (hj : j < W) {x : Int32} {d : Int} (h0 : 0 ≤ d) (h1 : d ≤ 4000) (hx : rg x (-1000 - d) (3000 + d)) : pX2_mirroredX b (nI j) x = mX w j x ∧ rg (mX w j x) (-5000 - d) (7000 + d) ∧ kX2_mirroredX b (nI j) x := by
  obtain ⟨p1, p2⟩ := at3 (k := 0) (kk := 0) h rfl hj (by omega)
  obtain ⟨q1, q2⟩ := at3 (k := 1) (kk := 1) h rfl hj (by omega)
  obtain ⟨t0, t1, t2⟩ := h.wall hj
  have hm := mir_rg h0 h1 t1 hx
  unfold pX2_mirroredX kX2_mirroredX mX
  rw [p1, q1]
  rcases t0 with t0 | t0
  · rw [t0]
    simp only [if_true, if_neg (show ¬ ((0 : Int32) = 1) by decide)]
    exact ⟨trivial, hm.1, p2, q2⟩
  · rw [t0]
    simp only [if_true, if_neg (show ¬ ((1 : Int32) = 0) by decide)]
    exact ⟨trivial, hm.2, p2, trivial⟩
theorem mirY_eq (h : BR C R M W N b g m w) {j : Nat} (hj : j < W) {x : Int32} {d : Int} (h0 : 0 ≤ d) (h1 : d ≤ 4000) (hx : rg x (-1000 - d) (3000 + d)) : pX2_mirroredY b (nI j) x = mY w j x ∧ rg (mY w j x) (-5000 - d) (7000 + d) ∧ kX2_mirroredY b (nI j) x := by
  obtain ⟨p1, p2⟩ := at3 (k := 0) (kk := 0) h rfl hj (by omega)
  obtain ⟨q1, q2⟩ := at3 (k := 1) (kk := 1) h rfl hj (by omega)
  obtain ⟨t0, t1, t2⟩ := h.wall hj
  have hm := mir_rg h0 h1 t1 hx
  unfold pX2_mirroredY kX2_mirroredY mY
  rw [p1, q1]
  rcases t0 with t0 | t0
  · rw [t0]
    simp only [if_true]
    exact ⟨trivial, hm.2, p2, trivial⟩
  · rw [t0]
    simp only [if_neg (show ¬ ((1 : Int32) = 0) by decide)]
    exact ⟨trivial, hm.1, p2, q2⟩
theorem str_eq {r : Nat} (hr : r ≤ 30000) : ∃ s : Nat, s ≤ 1000 ∧ pX7_strength (nI r) = nI s ∧ 100000 / (nI r + 100) = nI s ∧ kX7_strength (nI r) ∧ ¬ nI r + 100 = 0 := by
  unfold pX7_strength kX7_strength
  rw [if_pos (nI_pos' (by omega)), if_pos (nI_pos' (by omega)), show (100 : Int32) = nI 100 from rfl, show (100000 : Int32) = nI 100000 from rfl, nI_add, pk_div (by omega) (by omega) (by omega)]
  refine ⟨_, ?_, rfl, rfl, nI_ne0 (by omega) (by omega), nI_ne0 (by omega) (by omega)⟩
  have : 100000 / (r + 100) ≤ 100000 / 100 := Nat.div_le_div_left (by omega) (by omega)
  omega
def okIx (W : Nat) (w : Int32) : Prop := w = -1000000000 ∨ ∃ j : Nat, j < W ∧ w = nI j
theorem nI_nNO {j : Nat} (h : j < 2 ^ 31) : ¬ nI j = -1000000000 := fun e => by
  have e2 := nI_toInt h
  rw [e] at e2
  have e3 : ((-1000000000 : Int32)).toInt = -1000000000 := by decide
  omega
theorem weak_eq (h : BR C R M W N b g m w) {s : Nat} (hs : s ≤ 1000) {v : Int32} (hw : okIx W v) : ∃ t : Nat, t ≤ 1000 ∧ pX2_strengthBehind b v (nI s) = nI t ∧ kX2_strengthBehind b v (nI s) ∧ (v = -1000000000 → t = s) ∧ (∀ j : Nat, j < W → v = nI j → nI s * (100 - w (3 * j + 2)) / 100 = nI t) := by
  have hl := h.le
  unfold pX2_strengthBehind kX2_strengthBehind
  rw [h.b5, has_eq (by omega)]
  rcases hw with hw | ⟨j, hj, hw⟩
  · subst hw
    have e3 : ((-1000000000 : Int32)).toInt = -1000000000 := by decide
    rw [e3]
    simp only [show ¬ ((0 : Int) ≤ -1000000000 ∧ (-1000000000 : Int) < W) by omega, decide_false, Bool.false_eq_true, if_false]
    exact ⟨s, hs, rfl, trivial, fun _ => rfl, fun j hj e => absurd e.symm (nI_nNO (by omega))⟩
  · subst hw
    obtain ⟨q1, q2⟩ := at3 (k := 2) (kk := 2) h rfl hj (by omega)
    rw [h.b5] at q1 q2
    obtain ⟨-, -, t2⟩ := h.wall hj
    obtain ⟨l, hl2, hle⟩ := nI_rg (n := 100) t2
    have e := nI_toInt (n := j) (by omega)
    have e4 : (100 : Int32) - nI l = nI (100 - l) := pk_sub (a := 100) (by omega)
    simp only [show (0 ≤ (nI j).toInt ∧ (nI j).toInt < W) by omega, decide_true, if_true]
    rw [q1]
    have hb : s * (100 - l) ≤ s * 100 := Nat.mul_le_mul_left s (by omega)
    have hv : nI s * (100 - w (3 * j + 2)) / 100 = nI (s * (100 - l) / 100) := by
      rw [hle, e4, pk_mul, show (100 : Int32) = nI 100 from rfl, pk_div (by omega) (by omega) (by omega)]
    rw [hv]
    refine ⟨_, ?_, rfl, q2, fun e => absurd e (nI_nNO (by omega)), fun j' hj' e9 => ?_⟩
    · have : s * (100 - l) / 100 ≤ s * 100 / 100 := Nat.div_le_div_right hb
      omega
    · have e8 : j' = j := ((nI_eq (by omega) (by omega)).mp e9).symm
      rw [e8]
      exact hv
end SCREENS
