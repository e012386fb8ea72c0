/-! PURE: the relation of a bench of the class and the reference's array, and what reads of both answer -/
section PREL
def okMic (S : Nat → Int32) (i : Nat) : Prop := rg (S (14 + 10 * i + 0)) (-500) 2500 ∧ rg (S (14 + 10 * i + 1)) (-500) 2500 ∧ rg (S (14 + 10 * i + 2)) (-500) 500 ∧ rg (S (14 + 10 * i + 3)) (-301000) 301000 ∧ (S (14 + 10 * i + 4) = 0 ∨ S (14 + 10 * i + 4) = 1) ∧ rg (S (14 + 10 * i + 5)) (-800000) 800000
def okWall (S : Nat → Int32) (i : Nat) : Prop := (S (94 + 3 * i + 0) = 0 ∨ S (94 + 3 * i + 0) = 1) ∧ rg (S (94 + 3 * i + 1)) (-1000) 3000 ∧ rg (S (94 + 3 * i + 2)) 0 100
def okScr (S : Nat → Int32) (i : Nat) : Prop := (S (106 + 4 * i + 0) = 0 ∨ S (106 + 4 * i + 0) = 1) ∧ rg (S (106 + 4 * i + 1)) (-1000) 3000 ∧ rg (S (106 + 4 * i + 2)) (-1000) 3000 ∧ rg (S (106 + 4 * i + 3)) (-1000) 3000 ∧ (S (106 + 4 * i + 2)).toInt < (S (106 + 4 * i + 3)).toInt
def okSet (S : Nat → Int32) : Prop := 0 ≤ (S 6).toInt ∧ rg (S 7) 100 1000 ∧ rg (S 8) 1 2 ∧ rg (S 9) 0 100 ∧ rg (S 10) 0 50 ∧ rg (S 11) 0 1000 ∧ rg (S 12) 0 1 ∧ rg (S 13) 0 500
def okS (C R M W N : Nat) (S : Nat → Int32) : Prop := S 0 = nI C ∧ S 1 = nI R ∧ S 2 = nI M ∧ S 3 = nI W ∧ S 4 = nI N ∧ (2 ≤ C ∧ C ≤ 20) ∧ (2 ≤ R ∧ R ≤ 20) ∧ (M ≤ 8 ∧ W ≤ 4 ∧ N ≤ 4) ∧ (∀ i, i < M → okMic S i) ∧ (∀ i, i < W → okWall S i) ∧ (∀ i, i < N → okScr S i) ∧ okSet S
def micR (b : BS) (S : Nat → Int32) (i : Nat) : Prop := (∀ k, k < 4 → b.2 0 (i * 9 + k) = S (14 + 10 * i + k)) ∧ (S (14 + 10 * i + 4) = 1 → b.2 0 (i * 9 + 4) = S (14 + 10 * i + 5) ∧ ∀ k, k < 4 → b.2 0 (i * 9 + (5 + k)) = S (14 + 10 * i + (6 + k))) ∧ (S (14 + 10 * i + 4) ≠ 1 → ∀ k, k < 5 → b.2 0 (i * 9 + (4 + k)) = -1000000000)
def relB (M W N : Nat) (b : BS) (S : Nat → Int32) : Prop := b.1 0 = S 0 ∧ b.1 1 = S 1 ∧ b.1 2 = S 5 ∧ b.1 3 = S 6 ∧ b.1 4 = S 2 ∧ b.1 5 = S 3 ∧ b.1 6 = S 4 ∧ b.1 7 = 7 ∧ (∀ i, i < M → micR b S i) ∧ (∀ i, i < W → ∀ k, k < 3 → b.2 1 (i * 3 + k) = S (94 + 3 * i + k)) ∧ (∀ i, i < N → ∀ k, k < 4 → b.2 2 (i * 4 + k) = S (106 + 4 * i + k)) ∧ (∀ k, k < 7 → b.2 3 (k * 1 + 0) = S (7 + k))
def BR (C R M W N : Nat) (b : BS) (S : Nat → Int32) : Prop := okS C R M W N S ∧ relB M W N b S
variable {C R M W N : Nat} {b : BS} {S : Nat → Int32} {m : MS}
theorem BR.mic (h : BR C R M W N b S) {i : Nat} (hi : i < M) : okMic S i := h.1.2.2.2.2.2.2.2.2.1 i hi
theorem BR.wall (h : BR C R M W N b S) {i : Nat} (hi : i < W) : okWall S i := h.1.2.2.2.2.2.2.2.2.2.1 i hi
theorem BR.scr (h : BR C R M W N b S) {i : Nat} (hi : i < N) : okScr S i := h.1.2.2.2.2.2.2.2.2.2.2.1 i hi
theorem BR.set (h : BR C R M W N b S) : okSet S := h.1.2.2.2.2.2.2.2.2.2.2.2
theorem BR.mR (h : BR C R M W N b S) {i : Nat} (hi : i < M) : micR b S i := h.2.2.2.2.2.2.2.2.2.1 i hi
theorem BR.wallR (h : BR C R M W N b S) {i k : Nat} (hi : i < W) (hk : k < 3) : b.2 1 (i * 3 + k) = S (94 + 3 * i + k) := h.2.2.2.2.2.2.2.2.2.2.1 i hi k hk
theorem BR.scrR (h : BR C R M W N b S) {i k : Nat} (hi : i < N) (hk : k < 4) : b.2 2 (i * 4 + k) = S (106 + 4 * i + k) := h.2.2.2.2.2.2.2.2.2.2.2.1 i hi k hk
theorem BR.setR (h : BR C R M W N b S) {k : Nat} (hk : k < 7) : b.2 3 (k * 1 + 0) = S (7 + k) := h.2.2.2.2.2.2.2.2.2.2.2.2 k hk
theorem BR.eC (h : BR C R M W N b S) : S 0 = nI C := h.1.1
theorem BR.eR (h : BR C R M W N b S) : S 1 = nI R := h.1.2.1
theorem BR.eM (h : BR C R M W N b S) : S 2 = nI M := h.1.2.2.1
theorem BR.eW (h : BR C R M W N b S) : S 3 = nI W := h.1.2.2.2.1
theorem BR.eN (h : BR C R M W N b S) : S 4 = nI N := h.1.2.2.2.2.1
theorem BR.le (h : BR C R M W N b S) : (2 ≤ C ∧ C ≤ 20) ∧ (2 ≤ R ∧ R ≤ 20) ∧ (M ≤ 8 ∧ W ≤ 4 ∧ N ≤ 4) := ⟨h.1.2.2.2.2.2.1, h.1.2.2.2.2.2.2.1, h.1.2.2.2.2.2.2.2.1⟩
theorem BR.b0 (h : BR C R M W N b S) : b.1 0 = nI C := h.2.1.trans h.eC
theorem BR.b1 (h : BR C R M W N b S) : b.1 1 = nI R := h.2.2.1.trans h.eR
theorem BR.b2 (h : BR C R M W N b S) : b.1 2 = S 5 := h.2.2.2.1
theorem BR.b3 (h : BR C R M W N b S) : b.1 3 = S 6 := h.2.2.2.2.1
theorem BR.b4 (h : BR C R M W N b S) : b.1 4 = nI M := h.2.2.2.2.2.1.trans h.eM
theorem BR.b5 (h : BR C R M W N b S) : b.1 5 = nI W := h.2.2.2.2.2.2.1.trans h.eW
theorem BR.b6 (h : BR C R M W N b S) : b.1 6 = nI N := h.2.2.2.2.2.2.2.1.trans h.eN
theorem BR.b7 (h : BR C R M W N b S) : b.1 7 = nI 7 := h.2.2.2.2.2.2.2.2.1
/-- reads of the class's tables -/
theorem at9 (h : BR C R M W N b S) {i k : Nat} {kk : Int32} (hk : kk = nI k) (hi : i < M) (h9 : k < 9) : pX9_at 8 9 72 (b.1 4, b.2 0) (nI i) kk = b.2 0 (i * 9 + k) ∧ kX9_at 8 9 72 (b.1 4, b.2 0) (nI i) kk := by
  have hl := h.le
  rw [h.b4]
  exact at_in (w := 9) rfl hk rfl hi h9 (by omega) (by omega) (by omega) (by omega)
theorem at9m (h : BR C R M W N b S) {i k : Nat} {kk : Int32} (hk : kk = nI k) (hi : i < M) (h9 : k < 4) : pX9_at 8 9 72 (b.1 4, b.2 0) (nI i) kk = S (14 + 10 * i + k) ∧ kX9_at 8 9 72 (b.1 4, b.2 0) (nI i) kk := by
  have e := at9 h hk hi (show k < 9 by omega)
  rw [(h.mR hi).1 k h9] at e
  exact e
theorem at3 (h : BR C R M W N b S) {i k : Nat} {kk : Int32} (hk : kk = nI k) (hi : i < W) (h9 : k < 3) : pX9_at 4 3 12 (b.1 5, b.2 1) (nI i) kk = S (94 + 3 * i + k) ∧ kX9_at 4 3 12 (b.1 5, b.2 1) (nI i) kk := by
  have hl := h.le
  rw [h.b5, ← h.wallR hi h9]
  exact at_in (w := 3) rfl hk rfl hi h9 (by omega) (by omega) (by omega) (by omega)
theorem at4 (h : BR C R M W N b S) {i k : Nat} {kk : Int32} (hk : kk = nI k) (hi : i < N) (h9 : k < 4) : pX9_at 4 4 16 (b.1 6, b.2 2) (nI i) kk = S (106 + 4 * i + k) ∧ kX9_at 4 4 16 (b.1 6, b.2 2) (nI i) kk := by
  have hl := h.le
  rw [h.b6, ← h.scrR hi h9]
  exact at_in (w := 4) rfl hk rfl hi h9 (by omega) (by omega) (by omega) (by omega)
theorem at1 (h : BR C R M W N b S) {i : Nat} {ii : Int32} (hk : ii = nI i) (hi : i < 7) : pX9_at 7 1 7 (b.1 7, b.2 3) ii 0 = S (7 + i) ∧ kX9_at 7 1 7 (b.1 7, b.2 3) ii 0 := by
  rw [h.b7, ← h.setR hi]
  exact at_in (w := 1) (k := 0) (c := 7) hk rfl rfl hi (by omega) (by omega) (by omega) (by omega) (by omega)
theorem setting_eq (h : BR C R M W N b S) {i : Nat} {ii : Int32} (hk : ii = nI i) (hi : i < 7) : pX2_setting b ii = S (7 + i) ∧ kX2_setting b ii := at1 h hk hi
/-- reads of the reference's array -/
theorem of_ix {i k : Nat} (hi : i < 8) (hk : k < 10) : (14 + 10 * nI i + nI k).toNatClampNeg = 14 + 10 * i + k ∧ vp_in (14 + 10 * nI i + nI k) 122 := by
  have e : (14 + 10 * nI i + nI k : Int32) = nI (14 + 10 * i + k) := by
    rw [show (10 : Int32) = nI 10 from rfl, show (14 : Int32) = nI 14 from rfl, pk_mul, nI_add, nI_add]
  rw [e, nI_clamp (by omega)]
  exact ⟨rfl, vp_in_n (by omega) (by omega)⟩
theorem of_eq {i k : Nat} {kk : Int32} (hk : kk = nI k) (hi : i < 8) (h9 : k < 10) : pX12_of m (nI i) kk = m.2.2 0 (14 + 10 * i + k) ∧ kX12_of m (nI i) kk := by
  subst hk
  have e := of_ix hi h9
  unfold pX12_of kX12_of
  rw [e.1]
  exact ⟨rfl, e.2⟩
theorem puts_eq {i k : Nat} {kk x : Int32} (hk : kk = nI k) (hi : i < 8) (h9 : k < 10) : pX12_puts m (nI i) kk x = msa m 0 (upd (m.2.2 0) (14 + 10 * i + k) x) ∧ kX12_puts m (nI i) kk x := by
  subst hk
  have e := of_ix hi h9
  unfold pX12_puts kX12_puts
  simp only [lt]
  rw [e.1]
  exact ⟨rfl, e.2⟩
theorem nI_rg {x : Int32} {n : Nat} (h : rg x 0 n) : ∃ j : Nat, j ≤ n ∧ x = nI j := ⟨x.toInt.toNat, by have := h.1; have := h.2; omega, pu_nI h.1⟩
/-- ways and times -/
theorem time_eq (h : BR C R M W N b (m.2.2 0)) {r : Nat} (hr : r ≤ 30000) : ∃ T : Nat, T ≤ 300000 ∧ pX2_timeFor b (nI r) = nI T ∧ pX12_timeOf m (nI r) = nI T ∧ kX2_timeFor b (nI r) ∧ kX12_timeOf m (nI r) := by
  obtain ⟨e1, e2⟩ := at1 (i := 0) (ii := 0) h rfl (by omega)
  obtain ⟨v, hv⟩ : ∃ v : Nat, m.2.2 0 7 = nI v ∧ 100 ≤ v ∧ v ≤ 1000 := by
    have hs := h.set.2.1
    have e := pu_nI (x := m.2.2 0 7) (by have := hs.1; omega)
    refine ⟨_, e, ?_, ?_⟩
    · have := hs.1; omega
    · have := hs.2; omega
  unfold pX2_timeFor kX2_timeFor pX12_timeOf kX12_timeOf
  simp only [lt]
  rw [e1, show m.2.2 0 (7 + 0) = nI v from hv.1, if_pos (show (1 : Int32) ≤ nI v from nI_le (a := 1) (by omega) (by omega)), if_pos (show (1 : Int32) ≤ nI v from nI_le (a := 1) (by omega) (by omega)), show (1000 : Int32) = nI 1000 from rfl, pk_mul, pk_div (by omega) (by omega) (by omega)]
  refine ⟨_, ?_, rfl, rfl, ⟨e2, nI_ne0 (by omega) (by omega)⟩, nI_ne0 (by omega) (by omega)⟩
  have : r * 1000 / v ≤ r * 1000 / 100 := Nat.div_le_div_left (by omega) (by omega)
  omega
theorem way_to (h : BR C R M W N b (m.2.2 0)) {i : Nat} {x y : Int32} (hi : i < M) (hx : rg x (-9000) 11000) (hy : rg y (-9000) 11000) : ∃ r : Nat, r ≤ 30000 ∧ pX2_wayTo b (nI i) x y = nI r ∧ pX12_wayTo m x y (nI i) = nI r ∧ kX2_wayTo b (nI i) x y ∧ kX12_wayTo m x y (nI i) := by
  have hl := h.le
  obtain ⟨a1, a2⟩ := at9m (k := 0) (kk := 0) h rfl hi (by omega)
  obtain ⟨b1, b2⟩ := at9m (k := 1) (kk := 1) h rfl hi (by omega)
  obtain ⟨c1, c2⟩ := of_eq (m := m) (i := i) (k := 0) (kk := 0) rfl (by omega) (by omega)
  obtain ⟨d1, d2⟩ := of_eq (m := m) (i := i) (k := 1) (kk := 1) rfl (by omega) (by omega)
  obtain ⟨g1, g2, -⟩ := h.mic hi
  unfold pX2_wayTo kX2_wayTo pX12_wayTo kX12_wayTo
  simp only [lt]
  rw [a1, b1, c1, d1]
  have x1 := hx.1; have x2 := hx.2; have y1 := hy.1; have y2 := hy.2
  have p1 := g1.1; have p2 := g1.2; have q1 := g2.1; have q2 := g2.2
  generalize m.2.2 0 (14 + 10 * i + 0) = p at *
  generalize m.2.2 0 (14 + 10 * i + 1) = q at *
  have s1 : (p - x).toInt = p.toInt - x.toInt := Kit.i32_sub (by omega) (by omega)
  have s2 : (q - y).toInt = q.toInt - y.toInt := Kit.i32_sub (by omega) (by omega)
  have s3 : (x - p).toInt = x.toInt - p.toInt := Kit.i32_sub (by omega) (by omega)
  have s4 : (y - q).toInt = y.toInt - q.toInt := Kit.i32_sub (by omega) (by omega)
  obtain ⟨r, r1, r2, r3, r4, r5⟩ := way_eq (dx := p - x) (dy := q - y) (ex := x - p) (ey := y - q) ⟨by omega, by omega⟩ ⟨by omega, by omega⟩ (by omega) (by omega)
  exact ⟨r, r1, r2, r3, ⟨a2, b2, r4⟩, c2, d2, r5⟩
theorem col_eq (h : BR C R M W N b S) {c : Nat} (hc : c < C * R) : pX2_columnOf b (nI c) = nI (c % C) ∧ pX2_rowOf b (nI c) = nI (c / C) ∧ nI c / nI C = nI (c / C) ∧ nI c - nI c / nI C * nI C = nI (c % C) ∧ c % C < 20 ∧ c / C < 20 ∧ kX2_columnOf b (nI c) ∧ kX2_rowOf b (nI c) := by
  obtain ⟨h1, h2, -⟩ := h.le
  have hcr : C * R ≤ 20 * 20 := Nat.mul_le_mul (by omega) (by omega)
  have e1 : nI c / nI C = nI (c / C) := pk_div (by omega) (by omega) (by omega)
  have e2 : nI c - nI c / nI C * nI C = nI (c % C) := pk_rem (by omega) (by omega) (by omega)
  unfold pX2_columnOf pX2_rowOf kX2_columnOf kX2_rowOf
  rw [h.b0, if_pos (show (1 : Int32) ≤ nI C from nI_le (a := 1) (by omega) (by omega)), if_pos (show (1 : Int32) ≤ nI C from nI_le (a := 1) (by omega) (by omega)), if_pos (show (1 : Int32) ≤ nI C from nI_le (a := 1) (by omega) (by omega))]
  refine ⟨e2, e1, e1, e2, ?_, ?_, nI_ne0 (by omega) (by omega), nI_ne0 (by omega) (by omega)⟩
  · have := Nat.mod_lt c (show 0 < C by omega)
    omega
  · have : c / C < R := Nat.div_lt_of_lt_mul hc
    omega
theorem nI_mid {n : Nat} (h : n < 20) : 100 * nI n + 50 = nI (100 * n + 50) ∧ rg (nI (100 * n + 50)) (-9000) 11000 := by
  rw [show (100 : Int32) = nI 100 from rfl, show (50 : Int32) = nI 50 from rfl, pk_mul, nI_add]
  refine ⟨rfl, ?_⟩
  unfold rg
  rw [nI_toInt (by omega)]
  omega
theorem from_eq (h : BR C R M W N b (m.2.2 0)) {c i : Nat} (hc : c < C * R) (hi : i < M) : ∃ T : Nat, T ≤ 300000 ∧ pX2_timeFromCell b (nI c) (nI i) = nI T ∧ pX12_timeFrom m (nI c) (nI i) = nI T ∧ kX2_timeFromCell b (nI c) (nI i) ∧ kX12_timeFrom m (nI c) (nI i) := by
  obtain ⟨e1, e2, e3, e4, e5, e6, e7, e8⟩ := col_eq h hc
  obtain ⟨u1, u2⟩ := nI_mid e5
  obtain ⟨v1, v2⟩ := nI_mid e6
  obtain ⟨r, r1, r2, r3, r4, r5⟩ := way_to h hi u2 v2
  obtain ⟨T, t1, t2, t3, t4, t5⟩ := time_eq h r1
  have hl := h.le
  unfold pX2_timeFromCell kX2_timeFromCell pX12_timeFrom kX12_timeFrom
  rw [h.eC, e4, e1, e2, e3, u1, v1, r2, r3]
  refine ⟨T, t1, t2, t3, ⟨e7, e8, r4, t4⟩, nI_ne0 (by omega) (by omega), nI_ne0 (by omega) (by omega), r5, t5⟩
end PREL
