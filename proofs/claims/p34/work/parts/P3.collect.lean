/-! PURE: the list of arrivals -/
section COLLECT
variable {C R M W N : Nat} {b : BS} {g m w a : Nat → Int32}
theorem scr_L (h : BR C R M W N b g m w) {i : Nat} (hi : i < M) {x y : Int32} (hx : rg x (-1000) 3000) (hy : rg y (-1000) 3000) : ∀ (n q : Nat), q ≤ N → N - q < n →
    (pL_lists_L29 g m w n x y (m (10 * i + 0)) (m (10 * i + 1)) false true (nI q) a = pL_lists_L150 g m w fu x y (m (10 * i + 0)) (m (10 * i + 1)) 0 1 a ∧ (kL_lists_L150 g m w fu x y (m (10 * i + 0)) (m (10 * i + 1)) 0 1 a → kL_lists_L29 g m w n x y (m (10 * i + 0)) (m (10 * i + 1)) false true (nI q) a)) ∧
    pL_lists_L29 g m w n x y (m (10 * i + 0)) (m (10 * i + 1)) false false (nI q) a = pL_lists_L150 g m w fu x y (m (10 * i + 0)) (m (10 * i + 1)) 0 (bz (pX2_isScreened_L25 b n x y (m (10 * i + 0)) (m (10 * i + 1)) (nI q))) a ∧ kX2_isScreened_L25 b n x y (m (10 * i + 0)) (m (10 * i + 1)) (nI q) ∧ (kL_lists_L150 g m w fu x y (m (10 * i + 0)) (m (10 * i + 1)) 0 (bz (pX2_isScreened_L25 b n x y (m (10 * i + 0)) (m (10 * i + 1)) (nI q))) a → kL_lists_L29 g m w n x y (m (10 * i + 0)) (m (10 * i + 1)) false false (nI q) a) := by
  have hl := h.le
  intro n
  induction n with
  | zero => intro q h1 h2; omega
  | succ n ih =>
    intro q h1 h2
    have ft : ¬ false = true := Bool.false_ne_true
    show (bL_lists_L29 g m w (pL_lists_L29 g m w n) _ _ _ _ _ _ _ _ = _ ∧ (_ → kbL_lists_L29 g m w (kL_lists_L29 g m w n) _ _ _ _ _ _ _ _)) ∧ bL_lists_L29 g m w (pL_lists_L29 g m w n) _ _ _ _ _ _ _ _ = pL_lists_L150 g m w fu _ _ _ _ _ (bz (bX2_isScreened_L25 b (pX2_isScreened_L25 b n) _ _ _ _ _)) _ ∧ kbX2_isScreened_L25 b (kX2_isScreened_L25 b n) _ _ _ _ _ ∧ (kL_lists_L150 g m w fu _ _ _ _ _ (bz (bX2_isScreened_L25 b (pX2_isScreened_L25 b n) _ _ _ _ _)) _ → kbL_lists_L29 g m w (kL_lists_L29 g m w n) _ _ _ _ _ _ _ _)
    unfold bL_lists_L29 kbL_lists_L29 bX2_isScreened_L25 kbX2_isScreened_L25 pL_lists_L148 kL_lists_L148
    rw [h.eN, h.b6]
    by_cases e : q = N
    · subst e
      simp only [if_pos (nI_le (Nat.le_refl q) (show q < 2 ^ 31 by omega)), if_true, if_neg ft]
      exact ⟨⟨rfl, fun h => h⟩, rfl, trivial, fun h => h⟩
    · have hqN : q < N := by omega
      simp only [if_neg (nI_ge hqN (show N < 2 ^ 31 by omega)), if_true, if_neg ft]
      obtain ⟨a0, c0⟩ := ixS0 (show q < 3 by omega)
      obtain ⟨a1, c1⟩ := ixS (k := 1) (kk := 1) rfl (show q < 3 by omega) (by omega)
      obtain ⟨a2, c2⟩ := ixS (k := 2) (kk := 2) rfl (show q < 3 by omega) (by omega)
      obtain ⟨a3, c3⟩ := ixS (k := 3) (kk := 3) rfl (show q < 3 by omega) (by omega)
      obtain ⟨p1, p2⟩ := at4 (k := 0) (kk := 0) h rfl hqN (by omega)
      obtain ⟨q1, q2⟩ := at4 (k := 1) (kk := 1) h rfl hqN (by omega)
      obtain ⟨r1, r2⟩ := at4 (k := 2) (kk := 2) h rfl hqN (by omega)
      obtain ⟨s1, s2⟩ := at4 (k := 3) (kk := 3) h rfl hqN (by omega)
      rw [h.b6] at p1 p2 q1 q2 r1 r2 s1 s2
      obtain ⟨t0, t1, t2, t3, t4⟩ := h.scr hqN
      obtain ⟨m0, m1, -⟩ := h.mic hi
      obtain ⟨gT, gF⟩ := ih (q + 1) (by omega) (by omega)
      have w1 : ∀ {z : Int32}, rg z (-1000) 3000 → rg z (-20000) 20000 := fun hz => ⟨by have := hz.1; omega, by have := hz.2; omega⟩
      have w2 : ∀ {z : Int32}, rg z (-500) 2500 → rg z (-20000) 20000 := fun hz => ⟨by have := hz.1; omega, by have := hz.2; omega⟩
      have k1 := cross_eq (w1 hx) (w1 hy) (w2 m0) (w2 m1) (w1 t1) (w1 t2) (w1 t3) t4
      have k2 := cross_eq (w1 hy) (w1 hx) (w2 m1) (w2 m0) (w1 t1) (w1 t2) (w1 t3) t4
      unfold pL_lists_L125 kL_lists_L125 pL_lists_L129 kL_lists_L129 pL_lists_L130 kL_lists_L130 pX2_isScreened_L119 kX2_isScreened_L119
      simp only [lt, p1, q1, r1, s1, p2, q2, r2, s2, k1, k2, a0, a1, a2, a3, c0, c1, c2, c3, true_and, nI_1]
      refine ⟨gT, ?_⟩
      rcases t0 with t0 | t0
      · rw [t0]
        simp only [if_true]
        by_cases v : pL_takes (w (12 + 4 * q + 1)) (w (12 + 4 * q + 2)) (w (12 + 4 * q + 3)) x y (m (10 * i + 0)) (m (10 * i + 1)) = true
        · simp only [if_pos v]
          exact ⟨gT.1, trivial, gT.2⟩
        · simp only [if_neg v]
          exact gF
      · rw [t0]
        simp only [if_neg (show ¬ ((1 : Int32) = 0) by decide)]
        by_cases v : pL_takes (w (12 + 4 * q + 1)) (w (12 + 4 * q + 2)) (w (12 + 4 * q + 3)) y x (m (10 * i + 1)) (m (10 * i + 0)) = true
        · simp only [if_pos v]
          exact ⟨gT.1, trivial, gT.2⟩
        · simp only [if_neg v]
          exact gF
theorem scr_eq (h : BR C R M W N b g m w) {i : Nat} (hi : i < M) {x y : Int32} (hx : rg x (-1000) 3000) (hy : rg y (-1000) 3000) : pL_lists g m w a x y (nI i) = pL_lists_L150 g m w fu x y (m (10 * i + 0)) (m (10 * i + 1)) 0 (bz (pX2_isScreened b x y (nI i))) a ∧ kX2_isScreened b x y (nI i) ∧ (kL_lists_L150 g m w fu x y (m (10 * i + 0)) (m (10 * i + 1)) 0 (bz (pX2_isScreened b x y (nI i))) a → kL_lists g m w a x y (nI i)) := by
  have hl := h.le
  obtain ⟨a1, a2⟩ := at9m (k := 0) (kk := 0) h rfl hi (by omega)
  obtain ⟨b1, b2⟩ := at9m (k := 1) (kk := 1) h rfl hi (by omega)
  obtain ⟨c0, d0⟩ := ixM0 (show i < 4 by omega)
  obtain ⟨c1, d1⟩ := ixM (k := 1) (kk := 1) rfl (show i < 4 by omega) (by omega)
  have q := (scr_L (a := a) h hi hx hy fu 0 (by omega) (by have := fu_ge; omega)).2
  unfold pX2_isScreened kX2_isScreened pL_lists kL_lists
  simp only [lt]
  rw [a1, b1, c0, c1]
  exact ⟨q.1, ⟨a2, b2, q.2.1⟩, fun e => ⟨d0, d1, q.2.2 e⟩⟩
/-- how many turns the law's loop makes -/
def totL (W : Nat) (g : Nat → Int32) : Nat := 1 + W + (if g 8 = 2 then W * W else 0)
theorem totL_lt (h : BR C R M W N b g m w) : totL W g < 100 := by
  have hl := h.le
  have hWW : W * W ≤ 3 * 3 := Nat.mul_le_mul (by omega) (by omega)
  unfold totL
  split <;> omega
theorem l150_u (h : BR C R M W N b g m w) (n qq : Nat) (hq : qq < 1000) (x y mx my vL : Int32) :
    pL_lists_L150 g m w (n + 1) x y mx my vL (nI qq) a = (if totL W g ≤ qq then (vL, a) else if nI qq = 0 then pL_lists_L216 g m w (pL_lists_L150 g m w n) x y mx my vL (nI qq) (-1) a else if nI W < nI qq then pL_lists_L216 g m w (pL_lists_L150 g m w n) x y mx my vL (nI qq) ((nI qq - 1 - nI W) / nI W) a else pL_lists_L216 g m w (pL_lists_L150 g m w n) x y mx my vL (nI qq) (nI qq - 1) a) ∧
    kL_lists_L150 g m w (n + 1) x y mx my vL (nI qq) a = (if totL W g ≤ qq then True else if nI qq = 0 then kL_lists_L216 g m w (kL_lists_L150 g m w n) x y mx my vL (nI qq) (-1) a else if nI W < nI qq then (¬ nI W = 0 ∧ kL_lists_L216 g m w (kL_lists_L150 g m w n) x y mx my vL (nI qq) ((nI qq - 1 - nI W) / nI W) a) else kL_lists_L216 g m w (kL_lists_L150 g m w n) x y mx my vL (nI qq) (nI qq - 1) a) := by
  have hl := h.le
  have hWW : W * W ≤ 3 * 3 := Nat.mul_le_mul (by omega) (by omega)
  show bL_lists_L150 g m w (pL_lists_L150 g m w n) _ _ _ _ _ _ _ = _ ∧ kbL_lists_L150 g m w (kL_lists_L150 g m w n) _ _ _ _ _ _ _ = _
  unfold bL_lists_L150 kbL_lists_L150 pL_lists_L176 kL_lists_L176 totL
  rw [h.eW]
  by_cases e : g 8 = 2
  · simp only [if_pos e]
    rw [pk_mul, show (1 : Int32) + nI W = nI (1 + W) from nI_add 1 W, nI_add]
    by_cases e2 : 1 + W + W * W ≤ qq
    · rw [if_pos (nI_le e2 (by omega)), if_pos (nI_le e2 (by omega)), if_pos e2, if_pos e2]
      exact ⟨rfl, rfl⟩
    · rw [if_neg (nI_ge (by omega) (by omega)), if_neg (nI_ge (by omega) (by omega)), if_neg e2, if_neg e2]
      exact ⟨rfl, rfl⟩
  · simp only [if_neg e]
    rw [show (1 : Int32) + nI W = nI (1 + W) from nI_add 1 W, show nI (1 + W) + 0 = nI (1 + W + 0) from nI_add (1 + W) 0]
    by_cases e2 : 1 + W + 0 ≤ qq
    · rw [if_pos (nI_le e2 (by omega)), if_pos (nI_le e2 (by omega)), if_pos e2, if_pos e2]
      exact ⟨rfl, rfl⟩
    · rw [if_neg (nI_ge (by omega) (by omega)), if_neg (nI_ge (by omega) (by omega)), if_neg e2, if_neg e2]
      exact ⟨rfl, rfl⟩
/-- one row of the law's loop: the source behind walls i and j, and what the class appends -/
theorem row_eq (h : BR C R M W N b g m w) {k L qq : Nat} {t : TS} (hA : RA (g 7) L t a) (hL : L < 12) (hq : qq < 1000) (hk : k < M) {x y i j f f2 : Int32} (hi : ixR W i f) (hj : ixR W j f2) (hij : i = -1 → j = -1) (hx : rg (mXi w j (mXi w i x)) (-9000) 11000) (hy : rg (mYi w j (mYi w i y)) (-9000) 11000) (q : QL) (Q : QLP) :
    ∃ (t' : TS) (a' : Nat → Int32), pX1_append t b (pX2_wayTo b (nI k) (mXi w j (mXi w i x)) (mYi w j (mYi w i y))) f f2 = (t', b) ∧ kX2_wayTo b (nI k) (mXi w j (mXi w i x)) (mYi w j (mYi w i y)) ∧ kX1_append t b (pX2_wayTo b (nI k) (mXi w j (mXi w i x)) (mYi w j (mYi w i y))) f f2 ∧ RA (g 7) (L + 1) t' a' ∧
      pL_lists_L256 g m w q x y (m (10 * k + 0)) (m (10 * k + 1)) (nI L) (nI qq) i j a = q x y (m (10 * k + 0)) (m (10 * k + 1)) (nI (L + 1)) (nI (qq + 1)) a' ∧ (Q x y (m (10 * k + 0)) (m (10 * k + 1)) (nI (L + 1)) (nI (qq + 1)) a' → kL_lists_L256 g m w Q x y (m (10 * k + 0)) (m (10 * k + 1)) (nI L) (nI qq) i j a) := by
  have hl := h.le
  have okf : ∀ {u v : Int32}, ixR W u v → okIx W v := fun hu => hu.elim (fun e => Or.inl e.2) (fun ⟨p, hp, _, e⟩ => Or.inr ⟨p, hp, e⟩)
  obtain ⟨t', r, q0, e1, e2, e3, e4, e5, e6, e7⟩ := append_eq h hA hL hk hx hy (okf hi) (okf hj)
  have u := l256 (a := a) (x := x) (y := y) (mx := m (10 * k + 0)) (my := m (10 * k + 1)) (vL := nI L) (vq := nI qq) h q Q hi hj
  have v := l392 (g := g) (m := m) (w := w) (a := a) (x := x) (y := y) (mx := m (10 * k + 0)) (my := m (10 * k + 1)) (by omega) hL hq q Q hi hj hij rfl e4 e5 e6
  exact ⟨t', _, e1, e2, e3, e7, u.1.trans v.1, fun z => u.2 (v.2 z)⟩
def ResA (b : BS) (v : Int32) (u : TS × BS) (o : Int32 × (Nat → Int32)) : Prop := ∃ (L : Nat) (t' : TS) (a' : Nat → Int32), u = (t', b) ∧ o = (nI L, a') ∧ RA v L t' a'
theorem so_b {W p j L : Nat} (hW : W ≤ 3) (hp : p < W) (hj : j < W) (hij : j ≠ p) (hL : L ≤ 1 + W + p * (W - 1) + (j - if p < j then 1 else 0)) : L < 12 ∧ L + 1 ≤ 1 + W + p * (W - 1) + (j + 1 - if p < j + 1 then 1 else 0) := by
  have hc : W = 1 ∨ W = 2 ∨ W = 3 := by omega
  rcases hc with rfl | rfl | rfl
  all_goals
    by_cases h : p < j
    · rw [if_pos h] at hL
      rw [if_pos (by omega)]
      omega
    · rw [if_neg h] at hL
      rw [if_neg (by omega)]
      omega
theorem ix_WW {W p j : Nat} (hW : W ≤ 3) (hp : p < W) (hj : j < W) : (nI (1 + W + (W * p + j)) - 1 - nI W) / nI W = nI p ∧ (nI (1 + W + (W * p + j)) - 1 - nI W) - (nI (1 + W + (W * p + j)) - 1 - nI W) / nI W * nI W = nI j ∧ W * p + j < W * W := by
  have h1 : W * p + j < W * W := by
    have : W * (p + 1) ≤ W * W := Nat.mul_le_mul_left W hp
    rw [Nat.mul_succ] at this
    omega
  have h2 : W * W ≤ 3 * 3 := Nat.mul_le_mul hW hW
  have e0 : nI (1 + W + (W * p + j)) - 1 - nI W = nI (W * p + j) := by
    rw [show (1 : Int32) = nI 1 from rfl, pk_sub (by omega), pk_sub (by omega)]
    congr 1
    omega
  have e1 : (W * p + j) / W = p := by
    rw [Nat.mul_add_div (by omega), Nat.div_eq_of_lt hj]
    rfl
  have e2 : (W * p + j) % W = j := by
    rw [Nat.mul_add_mod, Nat.mod_eq_of_lt hj]
  rw [e0, pk_rem (by omega) (by omega) (by omega), pk_div (by omega) (by omega) (by omega), e1, e2]
  exact ⟨rfl, rfl, h1⟩
theorem m9k {z : Int32} {d : Int} (h0 : d ≤ 4000) (h : rg z (-5000 - d) (7000 + d)) : rg z (-9000) 11000 := ⟨by have := h.1; omega, by have := h.2; omega⟩
theorem so_I (h : BR C R M W N b g m w) {i p : Nat} (hi : i < M) (hp : p < W) {x y : Int32} (hx : rg x (-1000) 3000) (hy : rg y (-1000) 3000) (h8 : g 8 = 2) (n3 : Nat) (O : ∀ (n1 : Nat) (t : TS) (a : Nat → Int32) (L : Nat), W * W - W * (p + 1) < n1 → RA (g 7) L t a → L ≤ 1 + W + (p + 1) * (W - 1) → ResA b (g 7) (pX1_collectSecondOrder_L3 n3 x y (nI i) (nI (p + 1)) t b) (pL_lists_L150 g m w n1 x y (m (10 * i + 0)) (m (10 * i + 1)) (nI L) (nI (1 + W + W * (p + 1))) a) ∧ kX1_collectSecondOrder_L3 n3 x y (nI i) (nI (p + 1)) t b ∧ kL_lists_L150 g m w n1 x y (m (10 * i + 0)) (m (10 * i + 1)) (nI L) (nI (1 + W + W * (p + 1))) a) :
    ∀ (e j : Nat), W - j = e → j ≤ W → ∀ (n2 n1 : Nat) (t : TS) (a : Nat → Int32) (L : Nat), W - j < n2 → W * W - (W * p + j) < n1 → RA (g 7) L t a → L ≤ 1 + W + p * (W - 1) + (j - if p < j then 1 else 0) →
      ResA b (g 7) (pX1_collectSecondOrder_L36 (pX1_collectSecondOrder_L3 n3) n2 x y (nI i) (nI p) (pX2_mirroredX b (nI p) x) (pX2_mirroredY b (nI p) y) (nI j) t b) (pL_lists_L150 g m w n1 x y (m (10 * i + 0)) (m (10 * i + 1)) (nI L) (nI (1 + W + (W * p + j))) a) ∧ kX1_collectSecondOrder_L36 (kX1_collectSecondOrder_L3 n3) n2 x y (nI i) (nI p) (pX2_mirroredX b (nI p) x) (pX2_mirroredY b (nI p) y) (nI j) t b ∧ kL_lists_L150 g m w n1 x y (m (10 * i + 0)) (m (10 * i + 1)) (nI L) (nI (1 + W + (W * p + j))) a := by
  have hl := h.le
  intro e
  induction e with
  | zero =>
    intro j h1 h2 n2 n1 t a L g1 g2 hA hL
    have ej : j = W := by omega
    subst ej
    rw [if_pos hp] at hL
    have hs : (p + 1) * (j - 1) = p * (j - 1) + (j - 1) := Nat.succ_mul p (j - 1)
    have hmm : j * (p + 1) = j * p + j := Nat.mul_succ j p
    obtain ⟨n2, rfl⟩ : ∃ q, n2 = q + 1 := ⟨n2 - 1, by omega⟩
    rw [← hmm]
    have o := O n1 t a L (by omega) hA (by omega)
    have eL : pX1_collectSecondOrder_L36 (pX1_collectSecondOrder_L3 n3) (n2 + 1) x y (nI i) (nI p) (pX2_mirroredX b (nI p) x) (pX2_mirroredY b (nI p) y) (nI j) t b = pX1_collectSecondOrder_L3 n3 x y (nI i) (nI (p + 1)) t b := by
      show bX1_collectSecondOrder_L36 _ _ _ _ _ _ _ _ _ _ _ = _
      unfold bX1_collectSecondOrder_L36
      rw [h.b5, if_pos (nI_le (Nat.le_refl _) (by omega))]
      simp only [lt, nI_1]
    have eK : kX1_collectSecondOrder_L36 (kX1_collectSecondOrder_L3 n3) (n2 + 1) x y (nI i) (nI p) (pX2_mirroredX b (nI p) x) (pX2_mirroredY b (nI p) y) (nI j) t b = kX1_collectSecondOrder_L3 n3 x y (nI i) (nI (p + 1)) t b := by
      show kbX1_collectSecondOrder_L36 _ _ _ _ _ _ _ _ _ _ _ = _
      unfold kbX1_collectSecondOrder_L36
      rw [h.b5, if_pos (nI_le (Nat.le_refl _) (by omega))]
      simp only [lt, nI_1]
    rw [eL, eK]
    exact o
  | succ e ih =>
    intro j h1 h2 n2 n1 t a L g1 g2 hA hL
    have hj : j < W := by omega
    obtain ⟨w1, w2, w3⟩ := ix_WW (p := p) (j := j) (show W ≤ 3 by omega) hp hj
    have hWW : W * W ≤ 3 * 3 := Nat.mul_le_mul (by omega) (by omega)
    obtain ⟨n2, rfl⟩ : ∃ q, n2 = q + 1 := ⟨n2 - 1, by omega⟩
    obtain ⟨n1, rfl⟩ : ∃ q, n1 = q + 1 := ⟨n1 - 1, by omega⟩
    have hT : totL W g = 1 + W + W * W := by unfold totL; rw [if_pos h8]
    obtain ⟨u1, u2⟩ := l150_u (a := a) h n1 (1 + W + (W * p + j)) (by omega) x y (m (10 * i + 0)) (m (10 * i + 1)) (nI L)
    have nW : nI W < nI (1 + W + (W * p + j)) := (nI_ltI (by omega) (by omega)).mpr (by omega)
    rw [if_neg (show ¬ totL W g ≤ 1 + W + (W * p + j) by omega), if_neg (nI_ne0 (by omega) (by omega)), if_pos nW] at u1 u2
    unfold pL_lists_L216 pL_lists_L242 at u1
    unfold kL_lists_L216 kL_lists_L242 at u2
    rw [h.eW, if_pos nW] at u1 u2
    rw [w1] at u1 u2 w2
    rw [if_neg (nI_pos (by omega)), w2] at u1
    rw [if_neg (nI_pos (by omega)), w2] at u2
    rw [u1, u2]
    show ResA b (g 7) (bX1_collectSecondOrder_L36 (pX1_collectSecondOrder_L3 n3) (pX1_collectSecondOrder_L36 (pX1_collectSecondOrder_L3 n3) n2) _ _ _ _ _ _ _ _ _) _ ∧ kbX1_collectSecondOrder_L36 (kX1_collectSecondOrder_L3 n3) (kX1_collectSecondOrder_L36 (kX1_collectSecondOrder_L3 n3) n2) _ _ _ _ _ _ _ _ _ ∧ _
    unfold bX1_collectSecondOrder_L36 kbX1_collectSecondOrder_L36
    rw [h.b5]
    simp only [if_neg (nI_ge hj (show W < 2 ^ 31 by omega)), lt]
    have nz : ¬ nI W = 0 := nI_ne0 (by omega) (by omega)
    by_cases ejp : j = p
    · subst ejp
      simp only [if_true]
      unfold pX1_collectSecondOrder_L94 kX1_collectSecondOrder_L94 pL_lists_L578 kL_lists_L578
      simp only [lt, nI_1]
      rw [if_neg (by omega)] at hL
      have q := ih (j + 1) (by omega) (by omega) n2 n1 t a L (by omega) (by omega) hA (by rw [if_pos (by omega)]; omega)
      exact ⟨q.1, q.2.1, nz, nz, q.2.2⟩
    · rw [if_neg (fun e9 => ejp ((nI_eq (by omega) (by omega)).mp e9)), if_neg (fun e9 => ejp ((nI_eq (by omega) (by omega)).mp e9)), if_neg (fun e9 => ejp ((nI_eq (by omega) (by omega)).mp e9).symm), if_neg (fun e9 => ejp ((nI_eq (by omega) (by omega)).mp e9).symm)]
      obtain ⟨x1, x2, x3⟩ := mirX_eq (d := 0) h hp (by omega) (by omega) hx
      obtain ⟨y1, y2, y3⟩ := mirY_eq (d := 0) h hp (by omega) (by omega) hy
      obtain ⟨x5, x6, x7⟩ := mirX_eq (d := 4000) h hj (x := mX w p x) (by omega) (by omega) x2
      obtain ⟨y5, y6, y7⟩ := mirY_eq (d := 4000) h hj (x := mY w p y) (by omega) (by omega) y2
      obtain ⟨l1, l2⟩ := so_b (L := L) (by omega) hp hj ejp hL
      obtain ⟨t', a', a1, a2, a3, a4, a5, a6⟩ := row_eq (a := a) (x := x) (y := y) h hA l1 (show 1 + W + (W * p + j) < 1000 by omega) hi (Or.inr ⟨p, hp, rfl, rfl⟩) (Or.inr ⟨j, hj, rfl, rfl⟩) (fun e9 => absurd e9 (nI_m1 (by omega))) (by rw [mXi_n (by omega), mXi_n (by omega)]; exact x6) (by rw [mYi_n (by omega), mYi_n (by omega)]; exact y6) (pL_lists_L150 g m w n1) (kL_lists_L150 g m w n1)
      rw [mXi_n (by omega), mXi_n (by omega), mYi_n (by omega), mYi_n (by omega)] at a1 a2 a3
      rw [x1, y1, x5, y5, a1, a5]
      unfold pX1_collectSecondOrder_L94 kX1_collectSecondOrder_L94
      simp only [lt, nI_1]
      have q := ih (j + 1) (by omega) (by omega) n2 n1 t' a' (L + 1) (by omega) (by omega) a4 l2
      rw [x1, y1, show 1 + W + (W * p + (j + 1)) = 1 + W + (W * p + j) + 1 by omega] at q
      exact ⟨q.1, ⟨x7, y7, a2, a3, q.2.1⟩, nz, nz, a6 q.2.2⟩
theorem so_O (h : BR C R M W N b g m w) {i : Nat} (hi : i < M) {x y : Int32} (hx : rg x (-1000) 3000) (hy : rg y (-1000) 3000) (h8 : g 8 = 2) : ∀ (n3 p : Nat), W - p < n3 → p ≤ W → ∀ (n1 : Nat) (t : TS) (a : Nat → Int32) (L : Nat), W * W - W * p < n1 → RA (g 7) L t a → L ≤ 1 + W + p * (W - 1) → ResA b (g 7) (pX1_collectSecondOrder_L3 n3 x y (nI i) (nI p) t b) (pL_lists_L150 g m w n1 x y (m (10 * i + 0)) (m (10 * i + 1)) (nI L) (nI (1 + W + W * p)) a) ∧ kX1_collectSecondOrder_L3 n3 x y (nI i) (nI p) t b ∧ kL_lists_L150 g m w n1 x y (m (10 * i + 0)) (m (10 * i + 1)) (nI L) (nI (1 + W + W * p)) a := by
  have hl := h.le
  have hWW : W * W ≤ 3 * 3 := Nat.mul_le_mul (by omega) (by omega)
  have hT : totL W g = 1 + W + W * W := by unfold totL; rw [if_pos h8]
  intro n3
  induction n3 with
  | zero => intro p h1; omega
  | succ n3 ih =>
    intro p h1 h2 n1 t a L g1 hA hL
    by_cases e : p = W
    · subst e
      obtain ⟨n1, rfl⟩ : ∃ q, n1 = q + 1 := ⟨n1 - 1, by omega⟩
      obtain ⟨u1, u2⟩ := l150_u (a := a) h n1 (1 + p + p * p) (by omega) x y (m (10 * i + 0)) (m (10 * i + 1)) (nI L)
      rw [if_pos (by omega)] at u1 u2
      rw [u1, u2]
      show ResA b (g 7) (bX1_collectSecondOrder_L3 (pX1_collectSecondOrder_L3 n3) _ _ _ _ _ _) _ ∧ kbX1_collectSecondOrder_L3 (kX1_collectSecondOrder_L3 n3) _ _ _ _ _ _ ∧ _
      unfold bX1_collectSecondOrder_L3 kbX1_collectSecondOrder_L3
      rw [h.b5]
      simp only [if_pos (nI_le (Nat.le_refl p) (show p < 2 ^ 31 by omega))]
      exact ⟨⟨L, t, a, rfl, rfl, hA⟩, trivial, trivial⟩
    · have hp : p < W := by omega
      have q := so_I h hi hp hx hy h8 n3 (fun n1 t a L a1 a2 a3 => ih (p + 1) (by omega) (by omega) n1 t a L a1 a2 a3) (W - 0) 0 rfl (by omega) fu n1 t a L (by have := fu_ge; omega) g1 hA (by rw [if_neg (by omega)]; exact hL)
      obtain ⟨x1, x2, x3⟩ := mirX_eq (d := 0) h hp (by omega) (by omega) hx
      obtain ⟨y1, y2, y3⟩ := mirY_eq (d := 0) h hp (by omega) (by omega) hy
      have eL : pX1_collectSecondOrder_L3 (n3 + 1) x y (nI i) (nI p) t b = pX1_collectSecondOrder_L36 (pX1_collectSecondOrder_L3 n3) fu x y (nI i) (nI p) (pX2_mirroredX b (nI p) x) (pX2_mirroredY b (nI p) y) (nI 0) t b := by
        show bX1_collectSecondOrder_L3 _ _ _ _ _ _ _ = _
        unfold bX1_collectSecondOrder_L3
        rw [h.b5, if_neg (nI_ge hp (by omega))]
        rfl
      have eK : kX1_collectSecondOrder_L36 (kX1_collectSecondOrder_L3 n3) fu x y (nI i) (nI p) (pX2_mirroredX b (nI p) x) (pX2_mirroredY b (nI p) y) (nI 0) t b → kX1_collectSecondOrder_L3 (n3 + 1) x y (nI i) (nI p) t b := by
        intro hq
        show kbX1_collectSecondOrder_L3 _ _ _ _ _ _ _
        unfold kbX1_collectSecondOrder_L3
        rw [h.b5, if_neg (nI_ge hp (by omega))]
        exact ⟨x3, y3, hq⟩
      rw [eL]
      exact ⟨q.1, eK q.2.1, q.2.2⟩
theorem fo_L (h : BR C R M W N b g m w) {i : Nat} (hi : i < M) {x y : Int32} (hx : rg x (-1000) 3000) (hy : rg y (-1000) 3000) : ∀ (n p : Nat), p ≤ W → W - p < n → ∀ (n1 : Nat) (t : TS) (a : Nat → Int32) (L : Nat), 20 + W - p < n1 → RA (g 7) L t a → L ≤ 1 + p → ResA b (g 7) (pX1_collect_L39 n x y (nI i) (nI p) t b) (pL_lists_L150 g m w n1 x y (m (10 * i + 0)) (m (10 * i + 1)) (nI L) (nI (1 + p)) a) ∧ kX1_collect_L39 n x y (nI i) (nI p) t b ∧ kL_lists_L150 g m w n1 x y (m (10 * i + 0)) (m (10 * i + 1)) (nI L) (nI (1 + p)) a := by
  have hl := h.le
  have hWW : W * W ≤ 3 * 3 := Nat.mul_le_mul (by omega) (by omega)
  intro n
  induction n with
  | zero => intro p h1 h2; omega
  | succ n ih =>
    intro p h1 h2 n1 t a L hn hA hL
    show ResA b (g 7) (bX1_collect_L39 (pX1_collect_L39 n) _ _ _ _ _ _) _ ∧ kbX1_collect_L39 (kX1_collect_L39 n) _ _ _ _ _ _ ∧ _
    unfold bX1_collect_L39 kbX1_collect_L39
    rw [h.b5]
    by_cases e : p = W
    · subst e
      obtain ⟨s1, s2⟩ := setting_eq (i := 1) (ii := 1) h rfl (by omega)
      simp only [if_pos (nI_le (Nat.le_refl p) (show p < 2 ^ 31 by omega))]
      rw [s1]
      by_cases h8 : g 8 = 2
      · rw [if_pos (show g (7 + 1) = 2 from h8), if_pos (show g (7 + 1) = 2 from h8)]
        have q := so_O h hi hx hy h8 fu 0 (by have := fu_ge; omega) (by omega) n1 t a L (by omega) hA (by omega)
        exact ⟨q.1, ⟨s2, q.2.1⟩, q.2.2⟩
      · rw [if_neg (show ¬ g (7 + 1) = 2 from h8), if_neg (show ¬ g (7 + 1) = 2 from h8)]
        obtain ⟨n1, rfl⟩ : ∃ q, n1 = q + 1 := ⟨n1 - 1, by omega⟩
        obtain ⟨u1, u2⟩ := l150_u (a := a) h n1 (1 + p) (by omega) x y (m (10 * i + 0)) (m (10 * i + 1)) (nI L)
        have hT : totL p g = 1 + p := by unfold totL; rw [if_neg h8]; rfl
        rw [if_pos (by omega)] at u1 u2
        rw [u1, u2]
        exact ⟨⟨L, t, a, rfl, rfl, hA⟩, ⟨s2, trivial⟩, trivial⟩
    · have hp : p < W := by omega
      simp only [if_neg (nI_ge hp (show W < 2 ^ 31 by omega))]
      obtain ⟨n1, rfl⟩ : ∃ q, n1 = q + 1 := ⟨n1 - 1, by omega⟩
      obtain ⟨u1, u2⟩ := l150_u (a := a) h n1 (1 + p) (by omega) x y (m (10 * i + 0)) (m (10 * i + 1)) (nI L)
      have hT : 1 + W ≤ totL W g := by unfold totL; omega
      have nW : ¬ nI W < nI (1 + p) := fun e9 => by
        have := (nI_ltI (by omega) (by omega)).mp e9
        omega
      have e0 : nI (1 + p) - 1 = nI p := by
        rw [show (1 : Int32) = nI 1 from rfl, pk_sub (by omega)]
        congr 1
        omega
      rw [if_neg (by omega), if_neg (nI_ne0 (by omega) (by omega)), if_neg nW, e0] at u1 u2
      unfold pL_lists_L216 pL_lists_L242 at u1
      unfold kL_lists_L216 kL_lists_L242 at u2
      rw [h.eW, if_neg nW, if_neg (nI_pos (by omega)), if_neg (nI_m1 (by omega))] at u1
      rw [h.eW, if_neg nW, if_neg (nI_pos (by omega)), if_neg (nI_m1 (by omega))] at u2
      obtain ⟨x1, x2, x3⟩ := mirX_eq (d := 0) h hp (by omega) (by omega) hx
      obtain ⟨y1, y2, y3⟩ := mirY_eq (d := 0) h hp (by omega) (by omega) hy
      obtain ⟨t', a', a1, a2, a3, a4, a5, a6⟩ := row_eq (a := a) (x := x) (y := y) (j := -1) (f2 := -1000000000) h hA (show L < 12 by omega) (show 1 + p < 1000 by omega) hi (Or.inr ⟨p, hp, rfl, rfl⟩) (Or.inl ⟨rfl, rfl⟩) (fun _ => rfl) (by rw [mXi_n (by omega)]; unfold mXi; rw [if_pos rfl]; exact m9k (by omega) x2) (by rw [mYi_n (by omega)]; unfold mYi; rw [if_pos rfl]; exact m9k (by omega) y2) (pL_lists_L150 g m w n1) (kL_lists_L150 g m w n1)
      have ex : mXi w (-1) (mXi w (nI p) x) = mX w p x := by rw [mXi_n (by omega)]; unfold mXi; rw [if_pos rfl]
      have ey : mYi w (-1) (mYi w (nI p) y) = mY w p y := by rw [mYi_n (by omega)]; unfold mYi; rw [if_pos rfl]
      rw [ex, ey] at a1 a2 a3
      rw [u1, u2, x1, y1, a1, a5]
      simp only [lt, nI_1]
      have q := ih (p + 1) (by omega) (by omega) n1 t' a' (L + 1) (by omega) a4 (by omega)
      rw [show 1 + (p + 1) = 1 + p + 1 by omega] at q
      exact ⟨q.1, ⟨x3, y3, a2, a3, q.2.1⟩, a6 q.2.2⟩
theorem collect_eq (h : BR C R M W N b g m w) {i : Nat} (hi : i < M) {x y : Int32} (hx : rg x (-1000) 3000) (hy : rg y (-1000) 3000) (t : TS) (a : Nat → Int32) : ResA b (g 7) (pX1_collect t b x y (nI i)) (pL_lists g m w a x y (nI i)) ∧ kX1_collect t b x y (nI i) ∧ kL_lists g m w a x y (nI i) := by
  have hl := h.le
  have hA0 : RA (g 7) 0 (0, t.2) a := ⟨rfl, by omega, fun k hk => by omega⟩
  obtain ⟨s1, s2, s3⟩ := scr_eq (a := a) h hi hx hy
  obtain ⟨n, hn, hf⟩ := pu_fu 1 (by omega)
  unfold pX1_collect kX1_collect pX1_collect_L36 kX1_collect_L36
  simp only [lt]
  rw [s1]
  by_cases v : pX2_isScreened b x y (nI i) = true
  · simp only [if_pos v]
    have q := fo_L h hi hx hy fu 0 (by omega) (by have := fu_ge; omega) fu (0, t.2) a 0 (by have := fu_ge; omega) hA0 (by omega)
    have eb : bz (pX2_isScreened b x y (nI i)) = nI (1 + 0) := by rw [v]; rfl
    rw [eb] at s3 ⊢
    exact ⟨q.1, ⟨s2, q.2.1⟩, s3 q.2.2⟩
  · have eb : bz (pX2_isScreened b x y (nI i)) = nI 0 := by rw [show pX2_isScreened b x y (nI i) = false by cases h9 : pX2_isScreened b x y (nI i) <;> simp_all]; rfl
    simp only [if_neg v]
    rw [eb] at s3 ⊢
    obtain ⟨u1, u2⟩ := l150_u (a := a) h n 0 (by omega) x y (m (10 * i + 0)) (m (10 * i + 1)) 0
    have nW : ¬ nI W < nI 0 := fun e9 => by
      have := (nI_ltI (by omega) (by omega)).mp e9
      omega
    have hT : 1 + W ≤ totL W g := by unfold totL; omega
    rw [if_neg (by omega), if_pos (show nI 0 = 0 from rfl)] at u1 u2
    unfold pL_lists_L216 pL_lists_L242 at u1
    unfold kL_lists_L216 kL_lists_L242 at u2
    rw [h.eW, if_neg nW, if_pos m1_neg] at u1
    rw [h.eW, if_neg nW, if_pos m1_neg] at u2
    have ex : ∀ z : Int32, mXi w (-1) z = z := fun z => by unfold mXi; rw [if_pos rfl]
    have ey : ∀ z : Int32, mYi w (-1) z = z := fun z => by unfold mYi; rw [if_pos rfl]
    obtain ⟨t', a', a1, a2, a3, a4, a5, a6⟩ := row_eq (a := a) (x := x) (y := y) (i := -1) (f := -1000000000) (j := -1) (f2 := -1000000000) h hA0 (show 0 < 12 by omega) (show 0 < 1000 by omega) hi (Or.inl ⟨rfl, rfl⟩) (Or.inl ⟨rfl, rfl⟩) (fun _ => rfl) (by rw [ex, ex]; exact ⟨by have := hx.1; omega, by have := hx.2; omega⟩) (by rw [ey, ey]; exact ⟨by have := hy.1; omega, by have := hy.2; omega⟩) (pL_lists_L150 g m w n) (kL_lists_L150 g m w n)
    rw [ex, ex, ey, ey] at a1 a2 a3
    rw [← hn] at u1 u2
    have a5 : pL_lists_L256 g m w (pL_lists_L150 g m w n) x y (m (10 * i + 0)) (m (10 * i + 1)) 0 (nI 0) (-1) (-1) a = _ := a5
    rw [u1, a5, a1]
    rw [u2] at s3
    have q := fo_L h hi hx hy fu 0 (by omega) (by have := fu_ge; omega) n t' a' 1 (by have := fu_ge; omega) a4 (by omega)
    exact ⟨q.1, ⟨s2, a2, a3, q.2.1⟩, s3 (a6 q.2.2)⟩
end COLLECT
