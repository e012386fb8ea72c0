/-! PURE: the relation of a bench of the class and the law's three arrays; roots, ways and times -/
section DREL
theorem updA_eq (a : Nat → Nat → Int32) (k : Nat) (f : Nat → Int32) : updA a k f k = f := if_pos rfl
theorem updA_ne (a : Nat → Nat → Int32) {k j : Nat} (f : Nat → Int32) (h : j ≠ k) : updA a k f j = a j := if_neg h
theorem upd_eq (a : Nat → Int32) (k : Nat) (x : Int32) : upd a k x k = x := if_pos rfl
theorem upd_ne (a : Nat → Int32) {k j : Nat} (x : Int32) (h : j ≠ k) : upd a k x j = a j := if_neg h
theorem rhalf : ∀ k, k < 15 → (nI (2 ^ k) : Int32) / 2 = nI (wbit k) := by decide +kernel
theorem rt_L (N : Nat) (hN : N < 2 ^ 30) : ∀ (k r n : Nat), k < n → k ≤ 15 → r + 2 ^ k ≤ 2 ^ 15 → r * r ≤ N → N < (r + 2 ^ k) * (r + 2 ^ k) → ∃ t, pL_root_L6 n (nI N) (nI r) (nI (wbit k)) = nI t ∧ kL_root_L6 n (nI N) (nI r) (nI (wbit k)) ∧ t * t ≤ N ∧ N < (t + 1) * (t + 1) := by
  intro k
  induction k with
  | zero =>
    intro r n hk hk2 h1 h2 h3
    obtain ⟨n, rfl⟩ : ∃ q, n = q + 1 := ⟨n - 1, by omega⟩
    refine ⟨r, ?_, ?_, h2, h3⟩
    · show bL_root_L6 _ _ _ _ = _
      unfold bL_root_L6
      rw [if_pos (show nI (wbit 0) ≤ 0 by decide +kernel)]
    · show kbL_root_L6 _ _ _ _
      unfold kbL_root_L6
      rw [if_pos (show nI (wbit 0) ≤ 0 by decide +kernel)]
      trivial
  | succ k ih =>
    intro r n hk hk2 h1 h2 h3
    obtain ⟨n, rfl⟩ : ∃ q, n = q + 1 := ⟨n - 1, by omega⟩
    have hw : wbit (k + 1) = 2 ^ k := by unfold wbit; rw [if_neg (by omega)]; rfl
    have hsh := rhalf k (by omega)
    rw [hw]
    have hp : 0 < 2 ^ k := Nat.two_pow_pos k
    have hp2 : 2 ^ k ≤ 2 ^ 14 := Nat.pow_le_pow_right (by omega) (by omega)
    rw [Nat.pow_succ] at h1 h3
    generalize hP : 2 ^ k = P at *
    have hn0 : ¬ nI P ≤ 0 := nI_nle (by omega) (by omega)
    have hrr : (r + P) * (r + P) ≤ 2 ^ 15 * 2 ^ 15 := Nat.mul_le_mul (by omega) (by omega)
    by_cases hc : N < (r + P) * (r + P)
    · obtain ⟨t, e1, e2, e3⟩ := ih r n (by omega) (by omega) (by omega) h2 hc
      refine ⟨t, ?_, ?_, e3⟩
      · show bL_root_L6 (pL_root_L6 n) _ _ _ = _
        unfold bL_root_L6 pL_root_L27
        rw [if_neg hn0, nI_add, pk_mul, if_pos ((nI_ltI (by omega) (by omega)).mpr hc)]
        simp only [lt]
        rw [hsh, show nI r + 0 = nI r from Int32.add_zero _]
        exact e1
      · show kbL_root_L6 (kL_root_L6 n) _ _ _
        unfold kbL_root_L6 kL_root_L27
        rw [if_neg hn0, nI_add, pk_mul, if_pos ((nI_ltI (by omega) (by omega)).mpr hc)]
        simp only [lt]
        rw [hsh, show nI r + 0 = nI r from Int32.add_zero _]
        exact e2
    · obtain ⟨t, e1, e2, e3⟩ := ih (r + P) n (by omega) (by omega) (by omega) (by omega) (by rw [show r + P + P = r + P * 2 by omega]; exact h3)
      refine ⟨t, ?_, ?_, e3⟩
      · show bL_root_L6 (pL_root_L6 n) _ _ _ = _
        unfold bL_root_L6 pL_root_L27
        rw [if_neg hn0, nI_add, pk_mul, if_neg (fun h => hc ((nI_ltI (by omega) (by omega)).mp h))]
        simp only [lt]
        rw [hsh]
        exact e1
      · show kbL_root_L6 (kL_root_L6 n) _ _ _
        unfold kbL_root_L6 kL_root_L27
        rw [if_neg hn0, nI_add, pk_mul, if_neg (fun h => hc ((nI_ltI (by omega) (by omega)).mp h))]
        simp only [lt]
        rw [hsh]
        exact e2
theorem rt_N (N : Nat) (hN : N < 2 ^ 30) : ∃ r, pL_root (nI N) = nI r ∧ kL_root (nI N) ∧ r * r ≤ N ∧ N < (r + 1) * (r + 1) :=
  rt_L N hN 15 0 fu (by have := fu_ge; omega) (by omega) (by omega) (by omega) (by omega)
theorem sq_le {r N : Nat} (h : r * r ≤ N) (hN : N ≤ 900000000) : r ≤ 30000 := by
  by_cases e : r ≤ 30000
  · exact e
  · have := Nat.mul_le_mul (show 30001 ≤ r by omega) (show 30001 ≤ r by omega)
    omega
theorem way_eq {dx dy ex ey : Int32} (hx : rg dx (-20000) 20000) (hy : rg dy (-20000) 20000) (ex1 : ex.toInt = - dx.toInt) (ey1 : ey.toInt = - dy.toInt) : ∃ r : Nat, r ≤ 30000 ∧ pX7_way dx dy = nI r ∧ pL_root (ex * ex + ey * ey) = nI r ∧ kX7_way dx dy ∧ kL_root (ex * ex + ey * ey) := by
  obtain ⟨-, a2, a3⟩ := pu_sqI hx
  obtain ⟨-, b2, b3⟩ := pu_sqI hy
  have hx' : rg ex (-20000) 20000 := ⟨by have := hx.2; omega, by have := hx.1; omega⟩
  have hy' : rg ey (-20000) 20000 := ⟨by have := hy.2; omega, by have := hy.1; omega⟩
  obtain ⟨c1, -, -⟩ := pu_sqI hx'
  obtain ⟨d1, -, -⟩ := pu_sqI hy'
  have e1 : ex.toInt.natAbs = dx.toInt.natAbs := by omega
  have e2 : ey.toInt.natAbs = dy.toInt.natAbs := by omega
  rw [e1] at c1
  rw [e2] at d1
  rw [c1, d1, nI_add]
  unfold pX7_way kX7_way
  simp only [lt]
  rw [a2, b2, lN_add]
  generalize dx.toInt.natAbs * dx.toInt.natAbs = A at *
  generalize dy.toInt.natAbs * dy.toInt.natAbs = B at *
  obtain ⟨r, f1, f2, f3, f4⟩ := rt_N (A + B) (by omega)
  obtain ⟨t, g1, g2, g3, g4⟩ := pu_wayN (A + B) (by omega)
  have e := pu_sq f3 f4 g3 g4
  subst e
  exact ⟨r, sq_le f3 (by omega), g1, f1, g2, f2⟩
def okMic (m : Nat → Int32) (i : Nat) : Prop := rg (m (10 * i + 0)) (-500) 2500 ∧ rg (m (10 * i + 1)) (-500) 2500 ∧ rg (m (10 * i + 2)) (-500) 500
def okWall (w : Nat → Int32) (i : Nat) : Prop := (w (3 * i + 0) = 0 ∨ w (3 * i + 0) = 1) ∧ rg (w (3 * i + 1)) (-1000) 3000 ∧ rg (w (3 * i + 2)) 0 100
def okScr (w : Nat → Int32) (i : Nat) : Prop := (w (12 + 4 * i + 0) = 0 ∨ w (12 + 4 * i + 0) = 1) ∧ rg (w (12 + 4 * i + 1)) (-1000) 3000 ∧ rg (w (12 + 4 * i + 2)) (-1000) 3000 ∧ rg (w (12 + 4 * i + 3)) (-1000) 3000 ∧ (w (12 + 4 * i + 2)).toInt < (w (12 + 4 * i + 3)).toInt
def okSet (g : Nat → Int32) : Prop := 0 ≤ (g 6).toInt ∧ rg (g 7) 100 1000 ∧ rg (g 8) 1 2 ∧ rg (g 9) 0 100 ∧ rg (g 10) 0 50 ∧ rg (g 11) 0 1000 ∧ rg (g 12) 0 1 ∧ rg (g 13) 0 500
def okS (C R M W N : Nat) (g m w : Nat → Int32) : Prop := g 0 = nI C ∧ g 1 = nI R ∧ g 2 = nI M ∧ g 3 = nI W ∧ g 4 = nI N ∧ (2 ≤ C ∧ C ≤ 20) ∧ (2 ≤ R ∧ R ≤ 20) ∧ (M ≤ 4 ∧ W ≤ 3 ∧ N ≤ 3) ∧ (∀ i, i < M → okMic m i) ∧ (∀ i, i < W → okWall w i) ∧ (∀ i, i < N → okScr w i) ∧ okSet g
/-- what the two hold of microphones, notes and offsets left out -/
def micR (b : BS) (m : Nat → Int32) (i : Nat) : Prop := ∀ k, k < 3 → b.2 0 (i * 9 + k) = m (10 * i + k)
def relB (M W N : Nat) (b : BS) (g m w : Nat → Int32) : Prop := b.1 0 = g 0 ∧ b.1 1 = g 1 ∧ b.1 2 = g 5 ∧ b.1 3 = g 6 ∧ b.1 4 = g 2 ∧ b.1 5 = g 3 ∧ b.1 6 = g 4 ∧ b.1 7 = 7 ∧ (∀ i, i < M → micR b m i) ∧ (∀ i, i < W → ∀ k, k < 3 → b.2 1 (i * 3 + k) = w (3 * i + k)) ∧ (∀ i, i < N → ∀ k, k < 4 → b.2 2 (i * 4 + k) = w (12 + 4 * i + k)) ∧ (∀ k, k < 7 → b.2 3 (k * 1 + 0) = g (7 + k))
def BR (C R M W N : Nat) (b : BS) (g m w : Nat → Int32) : Prop := okS C R M W N g m w ∧ relB M W N b g m w
variable {C R M W N : Nat} {b : BS} {g m w : Nat → Int32}
theorem BR.mic (h : BR C R M W N b g m w) {i : Nat} (hi : i < M) : okMic m i := h.1.2.2.2.2.2.2.2.2.1 i hi
theorem BR.wall (h : BR C R M W N b g m w) {i : Nat} (hi : i < W) : okWall w i := h.1.2.2.2.2.2.2.2.2.2.1 i hi
theorem BR.scr (h : BR C R M W N b g m w) {i : Nat} (hi : i < N) : okScr w i := h.1.2.2.2.2.2.2.2.2.2.2.1 i hi
theorem BR.set (h : BR C R M W N b g m w) : okSet g := h.1.2.2.2.2.2.2.2.2.2.2.2
theorem BR.mR (h : BR C R M W N b g m w) {i : Nat} (hi : i < M) : micR b m i := h.2.2.2.2.2.2.2.2.2.1 i hi
theorem BR.wallR (h : BR C R M W N b g m w) {i k : Nat} (hi : i < W) (hk : k < 3) : b.2 1 (i * 3 + k) = w (3 * i + k) := h.2.2.2.2.2.2.2.2.2.2.1 i hi k hk
theorem BR.scrR (h : BR C R M W N b g m w) {i k : Nat} (hi : i < N) (hk : k < 4) : b.2 2 (i * 4 + k) = w (12 + 4 * i + k) := h.2.2.2.2.2.2.2.2.2.2.2.1 i hi k hk
theorem BR.setR (h : BR C R M W N b g m w) {k : Nat} (hk : k < 7) : b.2 3 (k * 1 + 0) = g (7 + k) := h.2.2.2.2.2.2.2.2.2.2.2.2 k hk
theorem BR.eC (h : BR C R M W N b g m w) : g 0 = nI C := h.1.1
theorem BR.eR (h : BR C R M W N b g m w) : g 1 = nI R := h.1.2.1
theorem BR.eM (h : BR C R M W N b g m w) : g 2 = nI M := h.1.2.2.1
theorem BR.eW (h : BR C R M W N b g m w) : g 3 = nI W := h.1.2.2.2.1
theorem BR.eN (h : BR C R M W N b g m w) : g 4 = nI N := h.1.2.2.2.2.1
theorem BR.le (h : BR C R M W N b g m w) : (2 ≤ C ∧ C ≤ 20) ∧ (2 ≤ R ∧ R ≤ 20) ∧ (M ≤ 4 ∧ W ≤ 3 ∧ N ≤ 3) := ⟨h.1.2.2.2.2.2.1, h.1.2.2.2.2.2.2.1, h.1.2.2.2.2.2.2.2.1⟩
theorem BR.b0 (h : BR C R M W N b g m w) : b.1 0 = nI C := h.2.1.trans h.eC
theorem BR.b1 (h : BR C R M W N b g m w) : b.1 1 = nI R := h.2.2.1.trans h.eR
theorem BR.b2 (h : BR C R M W N b g m w) : b.1 2 = g 5 := h.2.2.2.1
theorem BR.b3 (h : BR C R M W N b g m w) : b.1 3 = g 6 := h.2.2.2.2.1
theorem BR.b4 (h : BR C R M W N b g m w) : b.1 4 = nI M := h.2.2.2.2.2.1.trans h.eM
theorem BR.b5 (h : BR C R M W N b g m w) : b.1 5 = nI W := h.2.2.2.2.2.2.1.trans h.eW
theorem BR.b6 (h : BR C R M W N b g m w) : b.1 6 = nI N := h.2.2.2.2.2.2.2.1.trans h.eN
theorem BR.b7 (h : BR C R M W N b g m w) : b.1 7 = nI 7 := h.2.2.2.2.2.2.2.2.1
/-- reads of the class's tables -/
theorem at9 (h : BR C R M W N b g m w) {i k : Nat} {kk : Int32} (hk : kk = nI k) (hi : i < M) (h9 : k < 9) : pX9_at 8 9 72 (b.1 4, b.2 0) (nI i) kk = b.2 0 (i * 9 + k) ∧ kX9_at 8 9 72 (b.1 4, b.2 0) (nI i) kk := by
  have hl := h.le
  rw [h.b4]
  exact at_in (w := 9) rfl hk rfl hi h9 (by omega) (by omega) (by omega) (by omega)
theorem at9m (h : BR C R M W N b g m w) {i k : Nat} {kk : Int32} (hk : kk = nI k) (hi : i < M) (h9 : k < 3) : pX9_at 8 9 72 (b.1 4, b.2 0) (nI i) kk = m (10 * i + k) ∧ kX9_at 8 9 72 (b.1 4, b.2 0) (nI i) kk := by
  have e := at9 h hk hi (show k < 9 by omega)
  rw [h.mR hi k h9] at e
  exact e
theorem at3 (h : BR C R M W N b g m w) {i k : Nat} {kk : Int32} (hk : kk = nI k) (hi : i < W) (h9 : k < 3) : pX9_at 4 3 12 (b.1 5, b.2 1) (nI i) kk = w (3 * i + k) ∧ kX9_at 4 3 12 (b.1 5, b.2 1) (nI i) kk := by
  have hl := h.le
  rw [h.b5, ← h.wallR hi h9]
  exact at_in (w := 3) rfl hk rfl hi h9 (by omega) (by omega) (by omega) (by omega)
theorem at4 (h : BR C R M W N b g m w) {i k : Nat} {kk : Int32} (hk : kk = nI k) (hi : i < N) (h9 : k < 4) : pX9_at 4 4 16 (b.1 6, b.2 2) (nI i) kk = w (12 + 4 * i + k) ∧ kX9_at 4 4 16 (b.1 6, b.2 2) (nI i) kk := by
  have hl := h.le
  rw [h.b6, ← h.scrR hi h9]
  exact at_in (w := 4) rfl hk rfl hi h9 (by omega) (by omega) (by omega) (by omega)
theorem at1 (h : BR C R M W N b g m w) {i : Nat} {ii : Int32} (hk : ii = nI i) (hi : i < 7) : pX9_at 7 1 7 (b.1 7, b.2 3) ii 0 = g (7 + i) ∧ kX9_at 7 1 7 (b.1 7, b.2 3) ii 0 := by
  rw [h.b7, ← h.setR hi]
  exact at_in (w := 1) (k := 0) (c := 7) hk rfl rfl hi (by omega) (by omega) (by omega) (by omega) (by omega)
theorem setting_eq (h : BR C R M W N b g m w) {i : Nat} {ii : Int32} (hk : ii = nI i) (hi : i < 7) : pX2_setting b ii = g (7 + i) ∧ kX2_setting b ii := at1 h hk hi
theorem nI_rg {x : Int32} {n : Nat} (h : rg x 0 n) : ∃ j : Nat, j ≤ n ∧ x = nI j := ⟨x.toInt.toNat, by have := h.1; have := h.2; omega, pu_nI h.1⟩
/-- places of the law's arrays -/
theorem ixM {i k : Nat} {kk : Int32} (hk : kk = nI k) (hi : i < 4) (h9 : k < 10) : (10 * nI i + kk).toNatClampNeg = 10 * i + k ∧ vp_in (10 * nI i + kk) 40 := by
  subst hk
  rw [show (10 : Int32) = nI 10 from rfl, pk_mul, nI_add, nI_clamp (by omega)]
  exact ⟨rfl, vp_in_n (by omega) (by omega)⟩
theorem ixM0 {i : Nat} (hi : i < 4) : (10 * nI i).toNatClampNeg = 10 * i + 0 ∧ vp_in (10 * nI i) 40 := by
  rw [show (10 : Int32) = nI 10 from rfl, pk_mul, nI_clamp (by omega)]
  exact ⟨rfl, vp_in_n (by omega) (by omega)⟩
theorem ixW {i k : Nat} {kk : Int32} (hk : kk = nI k) (hi : i < 3) (h9 : k < 3) : (3 * nI i + kk).toNatClampNeg = 3 * i + k ∧ vp_in (3 * nI i + kk) 24 := by
  subst hk
  rw [show (3 : Int32) = nI 3 from rfl, pk_mul, nI_add, nI_clamp (by omega)]
  exact ⟨rfl, vp_in_n (by omega) (by omega)⟩
theorem ixW0 {i : Nat} (hi : i < 3) : (3 * nI i).toNatClampNeg = 3 * i + 0 ∧ vp_in (3 * nI i) 24 := by
  rw [show (3 : Int32) = nI 3 from rfl, pk_mul, nI_clamp (by omega)]
  exact ⟨rfl, vp_in_n (by omega) (by omega)⟩
theorem ixS {i k : Nat} {kk : Int32} (hk : kk = nI k) (hi : i < 3) (h9 : k < 4) : (12 + 4 * nI i + kk).toNatClampNeg = 12 + 4 * i + k ∧ vp_in (12 + 4 * nI i + kk) 24 := by
  subst hk
  rw [show (4 : Int32) = nI 4 from rfl, show (12 : Int32) = nI 12 from rfl, pk_mul, nI_add, nI_add, nI_clamp (by omega)]
  exact ⟨rfl, vp_in_n (by omega) (by omega)⟩
theorem ixS0 {i : Nat} (hi : i < 3) : (12 + 4 * nI i).toNatClampNeg = 12 + 4 * i + 0 ∧ vp_in (12 + 4 * nI i) 24 := by
  rw [show (4 : Int32) = nI 4 from rfl, show (12 : Int32) = nI 12 from rfl, pk_mul, nI_add, nI_clamp (by omega)]
  exact ⟨rfl, vp_in_n (by omega) (by omega)⟩
/-- ways and times -/
theorem BR.speed (h : BR C R M W N b g m w) : ∃ v : Nat, g 7 = nI v ∧ 100 ≤ v ∧ v ≤ 1000 := by
  have hs := h.set.2.1
  have e := pu_nI (x := g 7) (by have := hs.1; omega)
  refine ⟨_, e, ?_, ?_⟩
  · have := hs.1; omega
  · have := hs.2; omega
theorem BR.g7 (h : BR C R M W N b g m w) : ¬ g 7 = 0 := by
  obtain ⟨v, hv, h1, h2⟩ := h.speed
  rw [hv]
  exact nI_ne0 (by omega) (by omega)
theorem time_eq (h : BR C R M W N b g m w) {r : Nat} (hr : r ≤ 30000) : ∃ T : Nat, T ≤ 300000 ∧ pX2_timeFor b (nI r) = nI T ∧ nI r * 1000 / g 7 = nI T ∧ kX2_timeFor b (nI r) := by
  obtain ⟨e1, e2⟩ := at1 (i := 0) (ii := 0) h rfl (by omega)
  obtain ⟨v, hv⟩ := h.speed
  unfold pX2_timeFor kX2_timeFor
  simp only [lt]
  rw [e1, show g (7 + 0) = nI v from hv.1, if_pos (show (1 : Int32) ≤ nI v from nI_le (a := 1) (by omega) (by omega)), if_pos (show (1 : Int32) ≤ nI v from nI_le (a := 1) (by omega) (by omega)), show (1000 : Int32) = nI 1000 from rfl, pk_mul, pk_div (by omega) (by omega) (by omega)]
  refine ⟨_, ?_, rfl, rfl, ⟨e2, nI_ne0 (by omega) (by omega)⟩⟩
  have : r * 1000 / v ≤ r * 1000 / 100 := Nat.div_le_div_left (by omega) (by omega)
  omega
theorem way_to (h : BR C R M W N b g m w) {i : Nat} {x y : Int32} (hi : i < M) (hx : rg x (-9000) 11000) (hy : rg y (-9000) 11000) : ∃ r : Nat, r ≤ 30000 ∧ pX2_wayTo b (nI i) x y = nI r ∧ pL_root ((x - m (10 * i + 0)) * (x - m (10 * i + 0)) + (y - m (10 * i + 1)) * (y - m (10 * i + 1))) = nI r ∧ kX2_wayTo b (nI i) x y ∧ kL_root ((x - m (10 * i + 0)) * (x - m (10 * i + 0)) + (y - m (10 * i + 1)) * (y - m (10 * i + 1))) := by
  have hl := h.le
  obtain ⟨a1, a2⟩ := at9m (k := 0) (kk := 0) h rfl hi (by omega)
  obtain ⟨b1, b2⟩ := at9m (k := 1) (kk := 1) h rfl hi (by omega)
  obtain ⟨g1, g2, -⟩ := h.mic hi
  unfold pX2_wayTo kX2_wayTo
  rw [a1, b1]
  have x1 := hx.1; have x2 := hx.2; have y1 := hy.1; have y2 := hy.2
  have p1 := g1.1; have p2 := g1.2; have q1 := g2.1; have q2 := g2.2
  generalize m (10 * i + 0) = p at *
  generalize m (10 * i + 1) = q at *
  have s1 : (p - x).toInt = p.toInt - x.toInt := Kit.i32_sub (by omega) (by omega)
  have s2 : (q - y).toInt = q.toInt - y.toInt := Kit.i32_sub (by omega) (by omega)
  have s3 : (x - p).toInt = x.toInt - p.toInt := Kit.i32_sub (by omega) (by omega)
  have s4 : (y - q).toInt = y.toInt - q.toInt := Kit.i32_sub (by omega) (by omega)
  obtain ⟨r, r1, r2, r3, r4, r5⟩ := way_eq (dx := p - x) (dy := q - y) (ex := x - p) (ey := y - q) ⟨by omega, by omega⟩ ⟨by omega, by omega⟩ (by omega) (by omega)
  exact ⟨r, r1, r2, r3, ⟨a2, b2, r4⟩, r5⟩
theorem col_eq (h : BR C R M W N b g m w) {c : Nat} (hc : c < C * R) : pX2_columnOf b (nI c) = nI (c % C) ∧ pX2_rowOf b (nI c) = nI (c / C) ∧ c % C < 20 ∧ c / C < 20 ∧ kX2_columnOf b (nI c) ∧ kX2_rowOf b (nI c) := by
  obtain ⟨h1, h2, -⟩ := h.le
  have hcr : C * R ≤ 20 * 20 := Nat.mul_le_mul (by omega) (by omega)
  have e1 : nI c / nI C = nI (c / C) := pk_div (by omega) (by omega) (by omega)
  have e2 : nI c - nI c / nI C * nI C = nI (c % C) := pk_rem (by omega) (by omega) (by omega)
  unfold pX2_columnOf pX2_rowOf kX2_columnOf kX2_rowOf
  rw [h.b0, if_pos (show (1 : Int32) ≤ nI C from nI_le (a := 1) (by omega) (by omega)), if_pos (show (1 : Int32) ≤ nI C from nI_le (a := 1) (by omega) (by omega)), if_pos (show (1 : Int32) ≤ nI C from nI_le (a := 1) (by omega) (by omega))]
  refine ⟨e2, e1, ?_, ?_, nI_ne0 (by omega) (by omega), nI_ne0 (by omega) (by omega)⟩
  · have := Nat.mod_lt c (show 0 < C by omega)
    omega
  · have : c / C < R := Nat.div_lt_of_lt_mul hc
    omega
theorem nI_mid {n : Nat} (h : n < 20) : 100 * nI n + 50 = nI (100 * n + 50) ∧ rg (nI (100 * n + 50)) (-9000) 11000 := by
  rw [show (100 : Int32) = nI 100 from rfl, show (50 : Int32) = nI 50 from rfl, pk_mul, nI_add]
  refine ⟨rfl, ?_⟩
  unfold rg
  rw [nI_toInt (by omega)]
  omega
theorem from_eq (h : BR C R M W N b g m w) {c i : Nat} (hc : c < C * R) (hi : i < M) : ∃ T : Nat, T ≤ 300000 ∧ pX2_timeFromCell b (nI c) (nI i) = nI T ∧ kX2_timeFromCell b (nI c) (nI i) := by
  obtain ⟨e1, e2, e5, e6, e7, e8⟩ := col_eq h hc
  obtain ⟨u1, u2⟩ := nI_mid e5
  obtain ⟨v1, v2⟩ := nI_mid e6
  obtain ⟨r, r1, r2, r3, r4, r5⟩ := way_to h hi u2 v2
  obtain ⟨T, t1, t2, t3, t4⟩ := time_eq h r1
  have hl := h.le
  unfold pX2_timeFromCell kX2_timeFromCell
  rw [e1, e2, u1, v1, r2]
  exact ⟨T, t1, t2, ⟨e7, e8, r4, t4⟩⟩
/-- a bench that changes -/
theorem BR.chg {b' : BS} {g' m' : Nat → Int32} (h : BR C R M W N b g m w) (e0 : ∀ k, k < 5 → g' k = g k) (es : okSet g') (em : ∀ i, i < M → ∀ k, k < 3 → m' (10 * i + k) = m (10 * i + k)) (c0 : b'.1 0 = b.1 0) (c1 : b'.1 1 = b.1 1) (c4 : b'.1 4 = b.1 4) (c5 : b'.1 5 = b.1 5) (c6 : b'.1 6 = b.1 6) (c7 : b'.1 7 = b.1 7) (c2 : b'.1 2 = g' 5) (c3 : b'.1 3 = g' 6) (cm : ∀ i, i < M → ∀ k, k < 3 → b'.2 0 (i * 9 + k) = b.2 0 (i * 9 + k)) (d1 : b'.2 1 = b.2 1) (d2 : b'.2 2 = b.2 2) (cs : ∀ k, k < 7 → b'.2 3 (k * 1 + 0) = g' (7 + k)) : BR C R M W N b' g' m' w := by
  refine ⟨⟨(e0 0 (by omega)).trans h.eC, (e0 1 (by omega)).trans h.eR, (e0 2 (by omega)).trans h.eM, (e0 3 (by omega)).trans h.eW, (e0 4 (by omega)).trans h.eN, h.le.1, h.le.2.1, h.le.2.2, ?_, fun i hi => h.wall hi, fun i hi => h.scr hi, es⟩, ?_⟩
  · intro i hi
    have hm := h.mic hi
    unfold okMic at hm ⊢
    rw [em i hi 0 (by omega), em i hi 1 (by omega), em i hi 2 (by omega)]
    exact hm
  refine ⟨?_, ?_, c2, c3, ?_, ?_, ?_, ?_, ?_, ?_, ?_, cs⟩
  · rw [c0, e0 0 (by omega), h.b0, h.eC]
  · rw [c1, e0 1 (by omega), h.b1, h.eR]
  · rw [c4, e0 2 (by omega), h.b4, h.eM]
  · rw [c5, e0 3 (by omega), h.b5, h.eW]
  · rw [c6, e0 4 (by omega), h.b6, h.eN]
  · rw [c7, h.b7]; rfl
  · intro i hi k hk
    rw [cm i hi k hk, em i hi k hk]
    exact h.mR hi k hk
  · intro i hi k hk
    rw [d1]
    exact h.wallR hi hk
  · intro i hi k hk
    rw [d2]
    exact h.scrR hi hk
theorem BR.s6 (h : BR C R M W N b g m w) {x : Int32} (hx : 0 ≤ x.toInt) : BR C R M W N (bsi b 3 x) (upd g 6 x) m w := by
  have hs := h.set
  refine h.chg (fun k hk => upd_ne _ _ (by omega)) ?_ (fun i hi k hk => rfl) rfl rfl rfl rfl rfl rfl ?_ rfl (fun i hi k hk => rfl) rfl rfl ?_
  · unfold okSet at hs ⊢
    rw [upd_eq, upd_ne _ _ (by omega), upd_ne _ _ (by omega), upd_ne _ _ (by omega), upd_ne _ _ (by omega), upd_ne _ _ (by omega), upd_ne _ _ (by omega), upd_ne _ _ (by omega)]
    exact ⟨hx, hs.2⟩
  · rw [upd_ne _ _ (by omega)]
    exact h.b2
  · intro k hk
    rw [upd_ne _ _ (by omega)]
    exact h.setR hk
theorem BR.s5 (h : BR C R M W N b g m w) (x : Int32) : BR C R M W N (bsi b 2 x) (upd g 5 x) m w := by
  have hs := h.set
  refine h.chg (fun k hk => upd_ne _ _ (by omega)) ?_ (fun i hi k hk => rfl) rfl rfl rfl rfl rfl rfl rfl ?_ (fun i hi k hk => rfl) rfl rfl ?_
  · unfold okSet at hs ⊢
    rw [upd_ne _ _ (by omega), upd_ne _ _ (by omega), upd_ne _ _ (by omega), upd_ne _ _ (by omega), upd_ne _ _ (by omega), upd_ne _ _ (by omega), upd_ne _ _ (by omega), upd_ne _ _ (by omega)]
    exact hs
  · rw [upd_ne _ _ (by omega)]
    exact h.b3
  · intro k hk
    rw [upd_ne _ _ (by omega)]
    exact h.setR hk
/-- the microphones' rows change, but for their places and clocks -/
theorem BR.rows {f m' : Nat → Int32} (h : BR C R M W N b g m w) (eb : ∀ i, i < M → ∀ k, k < 3 → f (i * 9 + k) = b.2 0 (i * 9 + k)) (em : ∀ i, i < M → ∀ k, k < 3 → m' (10 * i + k) = m (10 * i + k)) : BR C R M W N (bst b 0 (nI M, f)) g m' w :=
  h.chg (fun k hk => rfl) h.set em rfl rfl h.b4.symm rfl rfl rfl h.b2 h.b3 eb rfl rfl (fun k hk => h.setR hk)
end DREL
