/-! PURE: the list of arrivals -/
section COLLECT
variable {C R M W N : Nat} {b : BS} {S : Nat → Int32} {m : MS}
def ResA (b : BS) (S : Nat → Int32) (m0 : MS) (u : TS × BS) (m' : MS) : Prop := ∃ (L : Nat) (t' : TS), u = (t', b) ∧ RA (S 7) L t' m' ∧ keeps m0 m' ∧ m'.2.2 0 = S
theorem ResA.of {m0 m1 m' : MS} {u : TS × BS} (h : ResA b S m1 u m') (g : keeps m0 m1) : ResA b S m0 u m' := by
  obtain ⟨L, t', e, a, k, s⟩ := h
  exact ⟨L, t', e, a, g.trans k, s⟩
theorem so_b {W p j L : Nat} (hW : W ≤ 4) (hp : p < W) (hj : j < W) (hij : j ≠ p) (hL : L ≤ 1 + W + p * (W - 1) + (j - if p < j then 1 else 0)) : L < 17 ∧ L + 1 ≤ 1 + W + p * (W - 1) + (j + 1 - if p < j + 1 then 1 else 0) := by
  have hc : W = 1 ∨ W = 2 ∨ W = 3 ∨ W = 4 := by omega
  rcases hc with rfl | rfl | rfl | rfl
  all_goals
    by_cases h : p < j
    · rw [if_pos h] at hL
      rw [if_pos (by omega)]
      omega
    · rw [if_neg h] at hL
      rw [if_neg (by omega)]
      omega
theorem ix_WW {W p j : Nat} (hW : W ≤ 4) (hp : p < W) (hj : j < W) : nI (W * p + j) / nI W = nI p ∧ nI (W * p + j) - nI (W * p + j) / nI W * nI W = nI j ∧ W * p + j < W * W := by
  have h1 : W * p + j < W * W := by
    have : W * (p + 1) ≤ W * W := Nat.mul_le_mul_left W hp
    rw [Nat.mul_succ] at this
    omega
  have h2 : W * W ≤ 4 * 4 := Nat.mul_le_mul hW hW
  have e1 : (W * p + j) / W = p := by
    rw [Nat.mul_add_div (by omega), Nat.div_eq_of_lt hj]
    rfl
  have e2 : (W * p + j) % W = j := by
    rw [Nat.mul_add_mod, Nat.mod_eq_of_lt hj]
  rw [pk_rem (by omega) (by omega) (by omega), pk_div (by omega) (by omega) (by omega), e1, e2]
  exact ⟨rfl, rfl, h1⟩
theorem so_I (h : BR C R M W N b S) {i p : Nat} (hi : i < M) (hp : p < W) {x y : Int32} (hx : rg x (-1000) 3000) (hy : rg y (-1000) 3000) (h8 : S 8 = 2) (n3 : Nat) (O : ∀ (n1 : Nat) (t : TS) (m : MS) (L : Nat), W * W - W * (p + 1) < n1 → m.2.2 0 = S → RA (S 7) L t m → L ≤ 1 + W + (p + 1) * (W - 1) → ResA b S m (pX1_collectSecondOrder_L3 n3 x y (nI i) (nI (p + 1)) t b) (pX12_lists_L78 n1 x y (nI i) (nI W) (nI (W * (p + 1))) m) ∧ kX1_collectSecondOrder_L3 n3 x y (nI i) (nI (p + 1)) t b ∧ kX12_lists_L78 n1 x y (nI i) (nI W) (nI (W * (p + 1))) m) :
    ∀ (e j : Nat), W - j = e → j ≤ W → ∀ (n2 n1 : Nat) (t : TS) (m : MS) (L : Nat), W - j < n2 → W * W - (W * p + j) < n1 → m.2.2 0 = S → RA (S 7) L t m → L ≤ 1 + W + p * (W - 1) + (j - if p < j then 1 else 0) →
      ResA b S m (pX1_collectSecondOrder_L36 (pX1_collectSecondOrder_L3 n3) n2 x y (nI i) (nI p) (pX2_mirroredX b (nI p) x) (pX2_mirroredY b (nI p) y) (nI j) t b) (pX12_lists_L78 n1 x y (nI i) (nI W) (nI (W * p + j)) m) ∧ kX1_collectSecondOrder_L36 (kX1_collectSecondOrder_L3 n3) n2 x y (nI i) (nI p) (pX2_mirroredX b (nI p) x) (pX2_mirroredY b (nI p) y) (nI j) t b ∧ kX12_lists_L78 n1 x y (nI i) (nI W) (nI (W * p + j)) m := by
  have hl := h.le
  intro e
  induction e with
  | zero =>
    intro j h1 h2 n2 n1 t m L g1 g2 hm hA hL
    have ej : j = W := by omega
    subst ej
    rw [if_pos hp] at hL
    have hs : (p + 1) * (j - 1) = p * (j - 1) + (j - 1) := Nat.succ_mul p (j - 1)
    have hmm : j * (p + 1) = j * p + j := Nat.mul_succ j p
    obtain ⟨n2, rfl⟩ : ∃ q, n2 = q + 1 := ⟨n2 - 1, by omega⟩
    rw [← hmm]
    have o := O n1 t m L (by omega) hm hA (by omega)
    have eL : pX1_collectSecondOrder_L36 (pX1_collectSecondOrder_L3 n3) (n2 + 1) x y (nI i) (nI p) (pX2_mirroredX b (nI p) x) (pX2_mirroredY b (nI p) y) (nI j) t b = pX1_collectSecondOrder_L3 n3 x y (nI i) (nI (p + 1)) t b := by
      show bX1_collectSecondOrder_L36 _ _ _ _ _ _ _ _ _ _ _ = _
      unfold bX1_collectSecondOrder_L36
      rw [h.b5, if_pos (nI_le (Nat.le_refl _) (by omega))]
      simp only [lt, nI_1]
    have eK : kX1_collectSecondOrder_L36 (kX1_collectSecondOrder_L3 n3) (n2 + 1) x y (nI i) (nI p) (pX2_mirroredX b (nI p) x) (pX2_mirroredY b (nI p) y) (nI j) t b = kX1_collectSecondOrder_L3 n3 x y (nI i) (nI (p + 1)) t b := by
      show kbX1_collectSecondOrder_L36 _ _ _ _ _ _ _ _ _ _ _ = _
      unfold kbX1_collectSecondOrder_L36
      rw [h.b5, if_pos (nI_le (Nat.le_refl _) (by omega))]
      simp only [lt, nI_1]
    rw [eL, eK]
    exact o
  | succ e ih =>
    intro j h1 h2 n2 n1 t m L g1 g2 hm hA hL
    have hj : j < W := by omega
    obtain ⟨w1, w2, w3⟩ := ix_WW (p := p) (j := j) (show W ≤ 4 by omega) hp hj
    have hWW : W * W ≤ 4 * 4 := Nat.mul_le_mul (by omega) (by omega)
    obtain ⟨n2, rfl⟩ : ∃ q, n2 = q + 1 := ⟨n2 - 1, by omega⟩
    obtain ⟨n1, rfl⟩ : ∃ q, n1 = q + 1 := ⟨n1 - 1, by omega⟩
    show ResA b S m (bX1_collectSecondOrder_L36 (pX1_collectSecondOrder_L3 n3) (pX1_collectSecondOrder_L36 (pX1_collectSecondOrder_L3 n3) n2) _ _ _ _ _ _ _ _ _) (bX12_lists_L78 (pX12_lists_L78 n1) _ _ _ _ _ _) ∧ kbX1_collectSecondOrder_L36 (kX1_collectSecondOrder_L3 n3) (kX1_collectSecondOrder_L36 (kX1_collectSecondOrder_L3 n3) n2) _ _ _ _ _ _ _ _ _ ∧ kbX12_lists_L78 (kX12_lists_L78 n1) _ _ _ _ _ _
    unfold bX1_collectSecondOrder_L36 kbX1_collectSecondOrder_L36 bX12_lists_L78 kbX12_lists_L78
    have hb : BR C R M W N b (m.2.2 0) := by rw [hm]; exact h
    rw [h.b5, pk_mul, w1, hm, h8]
    rw [w1] at w2
    simp only [w2, if_neg (nI_ge hj (show W < 2 ^ 31 by omega)), if_neg (nI_ge w3 (show W * W < 2 ^ 31 by omega)), if_true, lt, true_and]
    have nz : ¬ nI W = 0 := nI_ne0 (by omega) (by omega)
    by_cases ejp : j = p
    · subst ejp
      simp only [if_true]
      unfold pX1_collectSecondOrder_L94 kX1_collectSecondOrder_L94 pX12_lists_L156 kX12_lists_L156
      simp only [lt, nI_1]
      rw [if_neg (by omega)] at hL
      have q := ih (j + 1) (by omega) (by omega) n2 n1 t m L (by omega) (by omega) hm hA (by rw [if_pos (by omega)]; omega)
      exact ⟨q.1, q.2.1, nz, nz, q.2.2⟩
    · rw [if_neg (fun e9 => ejp ((nI_eq (by omega) (by omega)).mp e9)), if_neg (fun e9 => ejp ((nI_eq (by omega) (by omega)).mp e9)), if_neg (fun e9 => ejp ((nI_eq (by omega) (by omega)).mp e9).symm), if_neg (fun e9 => ejp ((nI_eq (by omega) (by omega)).mp e9).symm)]
      obtain ⟨x1, x2, x3, x4⟩ := mirX_eq (d := 0) hb hp (by omega) (by omega) hx
      obtain ⟨y1, y2, y3, y4⟩ := mirY_eq (d := 0) hb hp (by omega) (by omega) hy
      obtain ⟨x5, x6, x7, x8⟩ := mirX_eq (d := 4000) hb hj (x := pX12_mirroredX m (nI p) x) (by omega) (by omega) x2
      obtain ⟨y5, y6, y7, y8⟩ := mirY_eq (d := 4000) hb hj (x := pX12_mirroredY m (nI p) y) (by omega) (by omega) y2
      obtain ⟨l1, l2⟩ := so_b (L := L) (by omega) hp hj ejp hL
      have kd : (2 : Int32) = nI (kdOf (nI p) (nI j)) := by
        unfold kdOf
        rw [if_neg (nI_nNO (by omega)), if_neg (nI_nNO (by omega))]
        rfl
      obtain ⟨t', a1, a2, a3, a4, a5, a6, a7⟩ := append_eq (b := b) (i := i) hb (hm ▸ hA) l1 hi x6 y6 (Or.inr ⟨p, hp, rfl⟩) (Or.inr ⟨j, hj, rfl⟩) kd
      rw [x1, y1, x5, y5, a1]
      unfold pX1_collectSecondOrder_L94 kX1_collectSecondOrder_L94 pX12_lists_L156 kX12_lists_L156
      simp only [lt, nI_1]
      have q := ih (j + 1) (by omega) (by omega) n2 n1 t' _ (L + 1) (by omega) (by omega) (a4.trans hm) (hm ▸ a2) l2
      rw [x1, y1] at q
      exact ⟨q.1.of a3, ⟨x7, y7, a5, a6, q.2.1⟩, nz, nz, x4, x8, y4, y8, a7, q.2.2⟩
theorem so_O (h : BR C R M W N b S) {i : Nat} (hi : i < M) {x y : Int32} (hx : rg x (-1000) 3000) (hy : rg y (-1000) 3000) (h8 : S 8 = 2) : ∀ (n3 p : Nat), W - p < n3 → p ≤ W → ∀ (n1 : Nat) (t : TS) (m : MS) (L : Nat), W * W - W * p < n1 → m.2.2 0 = S → RA (S 7) L t m → L ≤ 1 + W + p * (W - 1) → ResA b S m (pX1_collectSecondOrder_L3 n3 x y (nI i) (nI p) t b) (pX12_lists_L78 n1 x y (nI i) (nI W) (nI (W * p)) m) ∧ kX1_collectSecondOrder_L3 n3 x y (nI i) (nI p) t b ∧ kX12_lists_L78 n1 x y (nI i) (nI W) (nI (W * p)) m := by
  have hl := h.le
  have hWW : W * W ≤ 4 * 4 := Nat.mul_le_mul (by omega) (by omega)
  intro n3
  induction n3 with
  | zero => intro p h1; omega
  | succ n3 ih =>
    intro p h1 h2 n1 t m L g1 hm hA hL
    by_cases e : p = W
    · subst e
      obtain ⟨n1, rfl⟩ : ∃ q, n1 = q + 1 := ⟨n1 - 1, by omega⟩
      show ResA b S m (bX1_collectSecondOrder_L3 (pX1_collectSecondOrder_L3 n3) _ _ _ _ _ _) (bX12_lists_L78 (pX12_lists_L78 n1) _ _ _ _ _ _) ∧ kbX1_collectSecondOrder_L3 (kX1_collectSecondOrder_L3 n3) _ _ _ _ _ _ ∧ kbX12_lists_L78 (kX12_lists_L78 n1) _ _ _ _ _ _
      unfold bX1_collectSecondOrder_L3 kbX1_collectSecondOrder_L3 bX12_lists_L78 kbX12_lists_L78
      rw [h.b5, pk_mul]
      simp only [if_pos (nI_le (Nat.le_refl p) (show p < 2 ^ 31 by omega)), if_pos (nI_le (Nat.le_refl (p * p)) (show p * p < 2 ^ 31 by omega))]
      exact ⟨⟨L, t, rfl, hA, keeps.rfl' m, hm⟩, trivial, trivial⟩
    · have hp : p < W := by omega
      have q := so_I h hi hp hx hy h8 n3 (fun n1 t m L a1 a2 a3 a4 => ih (p + 1) (by omega) (by omega) n1 t m L a1 a2 a3 a4) (W - 0) 0 rfl (by omega) fu n1 t m L (by have := fu_ge; omega) g1 hm hA (by rw [if_neg (by omega)]; exact hL)
      have hb : BR C R M W N b (m.2.2 0) := by rw [hm]; exact h
      obtain ⟨x1, x2, x3, x4⟩ := mirX_eq (d := 0) hb hp (by omega) (by omega) hx
      obtain ⟨y1, y2, y3, y4⟩ := mirY_eq (d := 0) hb hp (by omega) (by omega) hy
      have eL : pX1_collectSecondOrder_L3 (n3 + 1) x y (nI i) (nI p) t b = pX1_collectSecondOrder_L36 (pX1_collectSecondOrder_L3 n3) fu x y (nI i) (nI p) (pX2_mirroredX b (nI p) x) (pX2_mirroredY b (nI p) y) (nI 0) t b := by
        show bX1_collectSecondOrder_L3 _ _ _ _ _ _ _ = _
        unfold bX1_collectSecondOrder_L3
        rw [h.b5, if_neg (nI_ge hp (by omega))]
        rfl
      have eK : kX1_collectSecondOrder_L36 (kX1_collectSecondOrder_L3 n3) fu x y (nI i) (nI p) (pX2_mirroredX b (nI p) x) (pX2_mirroredY b (nI p) y) (nI 0) t b → kX1_collectSecondOrder_L3 (n3 + 1) x y (nI i) (nI p) t b := by
        intro hq
        show kbX1_collectSecondOrder_L3 _ _ _ _ _ _ _
        unfold kbX1_collectSecondOrder_L3
        rw [h.b5, if_neg (nI_ge hp (by omega))]
        exact ⟨x3, y3, hq⟩
      rw [eL]
      exact ⟨q.1, eK q.2.1, q.2.2⟩
theorem fo_L (h : BR C R M W N b S) {i : Nat} (hi : i < M) {x y : Int32} (hx : rg x (-1000) 3000) (hy : rg y (-1000) 3000) : ∀ (n p : Nat), p ≤ W → W - p < n → ∀ (t : TS) (m : MS) (L : Nat), m.2.2 0 = S → RA (S 7) L t m → L ≤ 1 + p → ResA b S m (pX1_collect_L39 n x y (nI i) (nI p) t b) (pX12_lists_L38 n x y (nI i) (nI W) (nI p) m) ∧ kX1_collect_L39 n x y (nI i) (nI p) t b ∧ kX12_lists_L38 n x y (nI i) (nI W) (nI p) m := by
  have hl := h.le
  have hWW : W * W ≤ 4 * 4 := Nat.mul_le_mul (by omega) (by omega)
  intro n
  induction n with
  | zero => intro p h1 h2; omega
  | succ n ih =>
    intro p h1 h2 t m L hm hA hL
    have hb : BR C R M W N b (m.2.2 0) := by rw [hm]; exact h
    show ResA b S m (bX1_collect_L39 (pX1_collect_L39 n) _ _ _ _ _ _) (bX12_lists_L38 (pX12_lists_L38 n) _ _ _ _ _ _) ∧ kbX1_collect_L39 (kX1_collect_L39 n) _ _ _ _ _ _ ∧ kbX12_lists_L38 (kX12_lists_L38 n) _ _ _ _ _ _
    unfold bX1_collect_L39 kbX1_collect_L39 bX12_lists_L38 kbX12_lists_L38
    rw [h.b5]
    by_cases e : p = W
    · subst e
      obtain ⟨s1, s2⟩ := setting_eq (i := 1) (ii := 1) h rfl (by omega)
      simp only [if_pos (nI_le (Nat.le_refl p) (show p < 2 ^ 31 by omega))]
      rw [s1]
      by_cases h8 : S 8 = 2
      · rw [if_pos (show S (7 + 1) = 2 from h8), if_pos (show S (7 + 1) = 2 from h8)]
        have q := so_O h hi hx hy h8 fu 0 (by have := fu_ge; omega) (by omega) fu t m L (by have := fu_ge; omega) hm hA (by omega)
        exact ⟨q.1, ⟨s2, q.2.1⟩, q.2.2⟩
      · rw [if_neg (show ¬ S (7 + 1) = 2 from h8), if_neg (show ¬ S (7 + 1) = 2 from h8)]
        have e8 : pX12_lists_L78 fu x y (nI i) (nI p) 0 m = m ∧ kX12_lists_L78 fu x y (nI i) (nI p) 0 m := by
          obtain ⟨n, hn, -⟩ := pu_fu 1 (by omega)
          rw [hn]
          show bX12_lists_L78 _ _ _ _ _ _ _ = _ ∧ kbX12_lists_L78 _ _ _ _ _ _ _
          unfold bX12_lists_L78 kbX12_lists_L78
          rw [hm]
          simp only [if_neg h8, ite_self]
          exact ⟨trivial, trivial⟩
        rw [e8.1]
        exact ⟨⟨L, t, rfl, hA, keeps.rfl' m, hm⟩, ⟨s2, trivial⟩, e8.2⟩
    · have hp : p < W := by omega
      simp only [if_neg (nI_ge hp (show W < 2 ^ 31 by omega))]
      obtain ⟨x1, x2, x3, x4⟩ := mirX_eq (d := 0) hb hp (by omega) (by omega) hx
      obtain ⟨y1, y2, y3, y4⟩ := mirY_eq (d := 0) hb hp (by omega) (by omega) hy
      have kd : (1 : Int32) = nI (kdOf (nI p) (-1000000000)) := by
        unfold kdOf
        rw [if_neg (nI_nNO (by omega)), if_pos rfl]
        rfl
      obtain ⟨t', a1, a2, a3, a4, a5, a6, a7⟩ := append_eq (b := b) (i := i) (x := pX12_mirroredX m (nI p) x) (y := pX12_mirroredY m (nI p) y) hb (hm ▸ hA) (show L < 17 by omega) hi ⟨by have := x2.1; omega, by have := x2.2; omega⟩ ⟨by have := y2.1; omega, by have := y2.2; omega⟩ (Or.inr ⟨p, hp, rfl⟩) (Or.inl rfl) kd
      rw [x1, y1, a1]
      simp only [lt, nI_1]
      have q := ih (p + 1) (by omega) (by omega) t' _ (L + 1) (a4.trans hm) (hm ▸ a2) (by omega)
      exact ⟨q.1.of a3, ⟨x3, y3, a5, a6, q.2.1⟩, x4, y4, a7, q.2.2⟩
theorem taken_S {m m' : MS} (h : m'.2.2 0 = m.2.2 0) (x y a : Int32) (hh : ∃ i, i < M ∧ a = nI i) (hx : rg x (-1000) 3000) (hy : rg y (-1000) 3000) (hb : BR C R M W N b (m.2.2 0)) : pX12_isTaken m' x y a = pX2_isScreened b x y a ∧ pX12_isTaken m x y a = pX2_isScreened b x y a ∧ kX12_isTaken m' x y a ∧ kX2_isScreened b x y a := by
  obtain ⟨i, hi, rfl⟩ := hh
  have hb2 : BR C R M W N b (m'.2.2 0) := by rw [h]; exact hb
  have q := scr_eq hb hi hx hy
  have q2 := scr_eq hb2 hi hx hy
  exact ⟨q2.1.symm, q.1.symm, q2.2.2, q.2.1⟩
theorem collect_eq (h : BR C R M W N b (m.2.2 0)) {i : Nat} (hi : i < M) {x y : Int32} (hx : rg x (-1000) 3000) (hy : rg y (-1000) 3000) (t : TS) : ResA b (m.2.2 0) m (pX1_collect t b x y (nI i)) (pX12_lists m x y (nI i)) ∧ kX1_collect t b x y (nI i) ∧ kX12_lists m x y (nI i) := by
  have hl := h.le
  have k0 : keeps m (msi m 4 0) := ⟨rfl, rfl, rfl, rfl, rfl, rfl, rfl⟩
  have hA0 : RA (m.2.2 0 7) 0 (0, t.2) (msi m 4 0) := ⟨rfl, rfl, by omega, fun k hk => by omega⟩
  obtain ⟨s1, s2, s3, s4⟩ := taken_S (m := m) (m' := msi m 4 0) rfl x y (nI i) ⟨i, hi, rfl⟩ hx hy h
  have F := fun (t : TS) (m1 : MS) (L : Nat) (hm : m1.2.2 0 = m.2.2 0) (hA : RA (m.2.2 0 7) L t m1) (hL : L ≤ 1) => fo_L h hi hx hy fu 0 (by omega) (by have := fu_ge; omega) t m1 L hm hA (by omega)
  unfold pX1_collect kX1_collect pX12_lists kX12_lists pX1_collect_L36 kX1_collect_L36 pX12_lists_L27 kX12_lists_L27
  simp only [lt]
  rw [s1]
  by_cases v : pX2_isScreened b x y (nI i) = true
  · simp only [if_pos v]
    have q := F (0, t.2) (msi m 4 0) 0 rfl hA0 (by omega)
    rw [show (msi m 4 0).2.2 0 3 = nI W from h.eW]
    exact ⟨q.1.of k0, ⟨s4, q.2.1⟩, s3, q.2.2⟩
  · simp only [if_neg v]
    have hb0 : BR C R M W N b ((msi m 4 0).2.2 0) := h
    obtain ⟨t', a1, a2, a3, a4, a5, a6, a7⟩ := append_eq (b := b) (i := i) (x := x) (y := y) hb0 hA0 (by omega) hi ⟨by have := hx.1; omega, by have := hx.2; omega⟩ ⟨by have := hy.1; omega, by have := hy.2; omega⟩ (Or.inl rfl) (Or.inl rfl) (show (0 : Int32) = nI (kdOf (-1000000000) (-1000000000)) by unfold kdOf; rw [if_pos rfl]; rfl)
    rw [a1, show (pX12_adds (msi m 4 0) (nI i) 0 x y (-1000000000) (-1000000000)).2.2 0 3 = nI W by rw [a4]; exact h.eW]
    have q := F t' _ 1 a4 a2 (by omega)
    exact ⟨(q.1.of a3).of k0, ⟨s4, a5, a6, q.2.1⟩, s3, a7, q.2.2⟩
end COLLECT
