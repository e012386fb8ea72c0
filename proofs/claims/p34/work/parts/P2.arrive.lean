/-! PURE: arrivals, a row at a time -/
section ARRIVE
variable {C R M W N : Nat} {b : BS} {g m w a : Nat → Int32}
def kdOf (f g : Int32) : Nat := (if f = -1000000000 then 0 else 1) + (if g = -1000000000 then 0 else 1)
theorem kdOf_bz (f g : Int32) : (if f = -1000000000 then (if g = -1000000000 then bz false + bz false else bz false + bz true) else (if g = -1000000000 then bz true + bz false else bz true + bz true)) = nI (kdOf f g) := by
  unfold kdOf
  by_cases e1 : f = -1000000000
  · by_cases e2 : g = -1000000000
    · simp only [if_pos e1, if_pos e2]; rfl
    · simp only [if_pos e1, if_neg e2]; rfl
  · by_cases e2 : g = -1000000000
    · simp only [if_neg e1, if_pos e2]; rfl
    · simp only [if_neg e1, if_neg e2]; rfl
theorem L34_eq {L : Nat} {t : TS} {b : BS} {x : Int32} {w T s : Nat} {f g s1 : Int32} (t0 t1 : Bool) (hx : bz t0 + bz t1 = x) (h1 : t.1 = nI L) (hL : L < 17) (hT : pX2_timeFor b (nI w) = nI T) (kT : kX2_timeFor b (nI w)) (hs : pX2_strengthBehind b g s1 = nI s) (ks : kX2_strengthBehind b g s1) :
    pX1_append_L34 (nI w) f g s1 t0 t1 t b = ((nI (L + 1), upd (upd (upd (upd (upd (upd (noneRow t.2 (L * 6) (L * 6 + 6)) (L * 6 + 0) x) (L * 6 + 1) (nI w)) (L * 6 + 2) (nI T)) (L * 6 + 3) (nI s)) (L * 6 + 4) f) (L * 6 + 5) g), b) ∧ kX1_append_L34 (nI w) f g s1 t0 t1 t b := by
  obtain ⟨t1', t2'⟩ := t
  have h1 : t1' = nI L := h1
  subst h1
  obtain ⟨a1, a2⟩ := addRow_eq (C := 17) (c := L) (w := 6) (len := 102) (cap := 17) (wid := 6) (f := t2') rfl rfl hL (by omega) (by omega) (by omega) (by omega)
  have P : ∀ (F : Nat → Int32) (k : Nat) (kk y : Int32), kk = nI k → k < 6 → pX9_put 17 6 102 (nI (L + 1), F) (nI L) kk y = (nI (L + 1), upd F (L * 6 + k) y) ∧ kX9_put 17 6 102 (nI (L + 1), F) (nI L) kk y := fun F k kk y e hk => put_in (w := 6) rfl e rfl (by omega) hk (by omega) (by omega) (by omega) (by omega)
  unfold pX1_append_L34 kX1_append_L34
  simp only [lt, bd, hx, a1, a2, hT, hs, kT, ks, true_and, (P _ 0 0 _ rfl (by omega)).1, (P _ 1 1 _ rfl (by omega)).1, (P _ 2 2 _ rfl (by omega)).1, (P _ 3 3 _ rfl (by omega)).1, (P _ 4 4 _ rfl (by omega)).1, (P _ 5 5 _ rfl (by omega)).1]
  exact ⟨(P _ 0 0 _ rfl (by omega)).2, (P _ 1 1 _ rfl (by omega)).2, (P _ 2 2 _ rfl (by omega)).2, (P _ 3 3 _ rfl (by omega)).2, (P _ 4 4 _ rfl (by omega)).2, (P _ 5 5 _ rfl (by omega)).2⟩
/-- a row of the law's list -/
def rowA (a : Nat → Int32) (L : Nat) (kd r s f g : Int32) : Nat → Int32 := upd (upd (upd (upd (upd a (5 * L + 0) kd) (5 * L + 1) r) (5 * L + 2) s) (5 * L + 3) f) (5 * L + 4) g
theorem rowA_0 (a : Nat → Int32) (L : Nat) (kd r s f g : Int32) : rowA a L kd r s f g (5 * L + 0) = kd := by
  unfold rowA
  rw [upd_ne _ _ (by omega), upd_ne _ _ (by omega), upd_ne _ _ (by omega), upd_ne _ _ (by omega), upd_eq]
theorem rowA_1 (a : Nat → Int32) (L : Nat) (kd r s f g : Int32) : rowA a L kd r s f g (5 * L + 1) = r := by
  unfold rowA
  rw [upd_ne _ _ (by omega), upd_ne _ _ (by omega), upd_ne _ _ (by omega), upd_eq]
theorem rowA_2 (a : Nat → Int32) (L : Nat) (kd r s f g : Int32) : rowA a L kd r s f g (5 * L + 2) = s := by
  unfold rowA
  rw [upd_ne _ _ (by omega), upd_ne _ _ (by omega), upd_eq]
theorem rowA_3 (a : Nat → Int32) (L : Nat) (kd r s f g : Int32) : rowA a L kd r s f g (5 * L + 3) = f := by
  unfold rowA
  rw [upd_ne _ _ (by omega), upd_eq]
theorem rowA_4 (a : Nat → Int32) (L : Nat) (kd r s f g : Int32) : rowA a L kd r s f g (5 * L + 4) = g := by
  unfold rowA
  rw [upd_eq]
theorem rowA_n (a : Nat → Int32) (L : Nat) (kd r s f g : Int32) {q : Nat} (h : q < 5 * L) : rowA a L kd r s f g q = a q := by
  unfold rowA
  rw [upd_ne _ _ (by omega), upd_ne _ _ (by omega), upd_ne _ _ (by omega), upd_ne _ _ (by omega), upd_ne _ _ (by omega)]
def rowR (v : Int32) (t : TS) (a : Nat → Int32) (k : Nat) : Prop := ∃ K w T s : Nat, K ≤ 2 ∧ w ≤ 30000 ∧ T ≤ 300000 ∧ s ≤ 1000 ∧ t.2 (k * 6 + 0) = nI K ∧ a (5 * k + 0) = nI K ∧ t.2 (k * 6 + 1) = nI w ∧ a (5 * k + 1) = nI w ∧ t.2 (k * 6 + 2) = nI T ∧ nI w * 1000 / v = nI T ∧ t.2 (k * 6 + 3) = nI s ∧ a (5 * k + 2) = nI s ∧ t.2 (k * 6 + 4) = a (5 * k + 3) ∧ t.2 (k * 6 + 5) = a (5 * k + 4)
def RA (v : Int32) (L : Nat) (t : TS) (a : Nat → Int32) : Prop := t.1 = nI L ∧ L ≤ 12 ∧ ∀ k, k < L → rowR v t a k
/-- the strengths behind two walls, as the law reckons them -/
def chain (W : Nat) (w : Nat → Int32) (f g : Int32) (r q0 : Nat) : Prop := ∃ s0 p0 : Nat, 100000 / (nI r + 100) = nI s0 ∧ (¬ nI r + 100 = 0) ∧ (f = -1000000000 → p0 = s0) ∧ (∀ j : Nat, j < W → f = nI j → nI s0 * (100 - w (3 * j + 2)) / 100 = nI p0) ∧ (g = -1000000000 → q0 = p0) ∧ (∀ j : Nat, j < W → g = nI j → nI p0 * (100 - w (3 * j + 2)) / 100 = nI q0)
theorem append_eq (h : BR C R M W N b g m w) {L i : Nat} {t : TS} (hA : RA (g 7) L t a) (hL : L < 12) (hi : i < M) {x y f f2 : Int32} (hx : rg x (-9000) 11000) (hy : rg y (-9000) 11000) (hf : okIx W f) (hg : okIx W f2) :
    ∃ (t' : TS) (r q0 : Nat), pX1_append t b (pX2_wayTo b (nI i) x y) f f2 = (t', b) ∧ kX2_wayTo b (nI i) x y ∧ kX1_append t b (pX2_wayTo b (nI i) x y) f f2 ∧ pL_root ((x - m (10 * i + 0)) * (x - m (10 * i + 0)) + (y - m (10 * i + 1)) * (y - m (10 * i + 1))) = nI r ∧ kL_root ((x - m (10 * i + 0)) * (x - m (10 * i + 0)) + (y - m (10 * i + 1)) * (y - m (10 * i + 1))) ∧ chain W w f f2 r q0 ∧ RA (g 7) (L + 1) t' (rowA a L (nI (kdOf f f2)) (nI r) (nI q0) f f2) := by
  obtain ⟨r, r1, r2, r3, r4, r5⟩ := way_to h hi hx hy
  obtain ⟨T, T1, T2, T3, T4⟩ := time_eq h r1
  obtain ⟨s0, s1, s2, s3, s4, s5⟩ := str_eq r1
  obtain ⟨p0, p1, p2, p4, p5, p6⟩ := weak_eq h s1 hf
  obtain ⟨q0, q1, q2, q4, q5, q6⟩ := weak_eq h p1 hg
  obtain ⟨A1, A3, A4⟩ := hA
  have D := fun (t0 t1 : Bool) (z : Int32) (hz : bz t0 + bz t1 = z) => L34_eq (f := f) t0 t1 hz A1 (show L < 17 by omega) T2 T4 q2 q4
  have hkd := kdOf_bz f f2
  have hKle : kdOf f f2 ≤ 2 := by unfold kdOf; split <;> split <;> omega
  have E : pX1_append t b (nI r) f f2 = ((nI (L + 1), upd (upd (upd (upd (upd (upd (noneRow t.2 (L * 6) (L * 6 + 6)) (L * 6 + 0) (nI (kdOf f f2))) (L * 6 + 1) (nI r)) (L * 6 + 2) (nI T)) (L * 6 + 3) (nI q0)) (L * 6 + 4) f) (L * 6 + 5) f2), b) ∧ kX1_append t b (nI r) f f2 := by
    unfold pX1_append kX1_append
    simp only [lt, s2, p2]
    unfold pX1_append_L22 kX1_append_L22
    by_cases c1 : f = -1000000000
    · by_cases c2 : f2 = -1000000000
      · simp only [if_pos c1, if_pos c2] at hkd ⊢
        exact ⟨(D _ _ _ hkd).1, s4, p4, (D _ _ _ hkd).2⟩
      · simp only [if_pos c1, if_neg c2] at hkd ⊢
        exact ⟨(D _ _ _ hkd).1, s4, p4, (D _ _ _ hkd).2⟩
    · by_cases c2 : f2 = -1000000000
      · simp only [if_neg c1, if_pos c2] at hkd ⊢
        exact ⟨(D _ _ _ hkd).1, s4, p4, (D _ _ _ hkd).2⟩
      · simp only [if_neg c1, if_neg c2] at hkd ⊢
        exact ⟨(D _ _ _ hkd).1, s4, p4, (D _ _ _ hkd).2⟩
  rw [r2, E.1]
  refine ⟨_, r, q0, rfl, r4, E.2, r3, r5, ⟨s0, p0, s3, s5, p5, p6, q5, q6⟩, rfl, hL, ?_⟩
  intro k hkL
  by_cases ek : k = L
  · subst ek
    refine ⟨kdOf f f2, r, T, q0, hKle, r1, T1, q1, ?_, rowA_0 _ _ _ _ _ _ _, ?_, rowA_1 _ _ _ _ _ _ _, ?_, T3, ?_, rowA_2 _ _ _ _ _ _ _, ?_, ?_⟩
    · show upd _ _ _ _ = _
      rw [upd_ne _ _ (by omega), upd_ne _ _ (by omega), upd_ne _ _ (by omega), upd_ne _ _ (by omega), upd_ne _ _ (by omega), upd_eq]
    · show upd _ _ _ _ = _
      rw [upd_ne _ _ (by omega), upd_ne _ _ (by omega), upd_ne _ _ (by omega), upd_ne _ _ (by omega), upd_eq]
    · show upd _ _ _ _ = _
      rw [upd_ne _ _ (by omega), upd_ne _ _ (by omega), upd_ne _ _ (by omega), upd_eq]
    · show upd _ _ _ _ = _
      rw [upd_ne _ _ (by omega), upd_ne _ _ (by omega), upd_eq]
    · rw [rowA_3]
      show upd _ _ _ _ = _
      rw [upd_ne _ _ (by omega), upd_eq]
    · rw [rowA_4]
      show upd _ _ _ _ = _
      rw [upd_eq]
  · obtain ⟨K, w9, T9, s9, a0, a1, a2, a3, b0, c0, b1, c1, b2, c2, b3, c3, b4, b5⟩ := A4 k (by omega)
    have ht : ∀ c, c < 6 → upd (upd (upd (upd (upd (upd (noneRow t.2 (L * 6) (L * 6 + 6)) (L * 6 + 0) (nI (kdOf f f2))) (L * 6 + 1) (nI r)) (L * 6 + 2) (nI T)) (L * 6 + 3) (nI q0)) (L * 6 + 4) f) (L * 6 + 5) f2 (k * 6 + c) = t.2 (k * 6 + c) := by
      intro c hc
      rw [upd_ne _ _ (by omega), upd_ne _ _ (by omega), upd_ne _ _ (by omega), upd_ne _ _ (by omega), upd_ne _ _ (by omega), upd_ne _ _ (by omega)]
      unfold noneRow
      rw [if_neg (by omega)]
    have hr : ∀ c, c < 5 → rowA a L (nI (kdOf f f2)) (nI r) (nI q0) f f2 (5 * k + c) = a (5 * k + c) := fun c hc => rowA_n _ _ _ _ _ _ _ (by omega)
    exact ⟨K, w9, T9, s9, a0, a1, a2, a3, (ht 0 (by omega)).trans b0, (hr 0 (by omega)).trans c0, (ht 1 (by omega)).trans b1, (hr 1 (by omega)).trans c1, (ht 2 (by omega)).trans b2, c2, (ht 3 (by omega)).trans b3, (hr 2 (by omega)).trans c3, (ht 4 (by omega)).trans (b4.trans (hr 3 (by omega)).symm), (ht 5 (by omega)).trans (b5.trans (hr 4 (by omega)).symm)⟩
end ARRIVE
/-! PURE: the law's list, a row at a time -/
section LROWS
variable {C R M W N : Nat} {b : BS} {g m w a : Nat → Int32}
theorem ixA {L k : Nat} {kk : Int32} (hk : kk = nI k) (hL : L < 12) (h5 : k < 5) : (5 * nI L + kk).toNatClampNeg = 5 * L + k ∧ vp_in (5 * nI L + kk) 60 := by
  subst hk
  rw [show (5 : Int32) = nI 5 from rfl, pk_mul, nI_add, nI_clamp (by omega)]
  exact ⟨rfl, vp_in_n (by omega) (by omega)⟩
theorem ixA0 {L : Nat} (hL : L < 12) : (5 * nI L).toNatClampNeg = 5 * L + 0 ∧ vp_in (5 * nI L) 60 := by
  rw [show (5 : Int32) = nI 5 from rfl, pk_mul, nI_clamp (by omega)]
  exact ⟨rfl, vp_in_n (by omega) (by omega)⟩
abbrev QL : Type := Int32 → Int32 → Int32 → Int32 → Int32 → Int32 → (Nat → Int32) → (Int32 × (Nat → Int32))
abbrev QLP : Type := Int32 → Int32 → Int32 → Int32 → Int32 → Int32 → (Nat → Int32) → Prop
/-- where the list's row is written -/
theorem l488 {L qq : Nat} (hL : L < 12) (hq : qq < 1000) (q : QL) (Q : QLP) (x y mx my r s i j f f2 kd : Int32) (hi : (i < 0 ∧ f = -1000000000 ∧ kd = 0) ∨ (0 ≤ i ∧ f = i ∧ (j < 0 ∧ kd = 1 ∨ 0 ≤ j ∧ kd = 2))) (hj : (j < 0 ∧ f2 = -1000000000) ∨ (0 ≤ j ∧ f2 = j)) :
    pL_lists_L488 g m w q x y mx my (nI L) (nI qq) i j r s a = q x y mx my (nI (L + 1)) (nI (qq + 1)) (rowA a L kd r s f f2) ∧ (Q x y mx my (nI (L + 1)) (nI (qq + 1)) (rowA a L kd r s f f2) → kL_lists_L488 g m w Q x y mx my (nI L) (nI qq) i j r s a) := by
  obtain ⟨a0, b0⟩ := ixA0 hL
  obtain ⟨a1, b1⟩ := ixA (k := 1) (kk := 1) rfl hL (by omega)
  obtain ⟨a2, b2⟩ := ixA (k := 2) (kk := 2) rfl hL (by omega)
  obtain ⟨a3, b3⟩ := ixA (k := 3) (kk := 3) rfl hL (by omega)
  obtain ⟨a4, b4⟩ := ixA (k := 4) (kk := 4) rfl hL (by omega)
  have n0 : ∀ {z : Int32}, z < 0 → ¬ 0 ≤ z := fun hz h2 => by
    rw [fa_lt] at hz; rw [fa_le] at h2; omega
  unfold rowA
  rcases hi with ⟨h1, rfl, rfl⟩ | ⟨h1, rfl, ⟨h2, rfl⟩ | ⟨h2, rfl⟩⟩
  · rcases hj with ⟨h3, rfl⟩ | ⟨h3, rfl⟩
    · simp only [pL_lists_L488, kL_lists_L488, pL_lists_L514, kL_lists_L514, pL_lists_L554, kL_lists_L554, pL_lists_L574, kL_lists_L574, pL_lists_L578, kL_lists_L578, lt, if_neg (n0 h1), if_neg (n0 h3), a0, a1, a2, a3, a4, b0, b1, b2, b3, b4, nI_1, true_and]
      exact fun h => h
    · simp only [pL_lists_L488, kL_lists_L488, pL_lists_L514, kL_lists_L514, pL_lists_L554, kL_lists_L554, pL_lists_L574, kL_lists_L574, pL_lists_L578, kL_lists_L578, lt, if_neg (n0 h1), if_pos h3, a0, a1, a2, a3, a4, b0, b1, b2, b3, b4, nI_1, true_and]
      exact fun h => h
  · rcases hj with ⟨h3, rfl⟩ | ⟨h3, rfl⟩
    · simp only [pL_lists_L488, kL_lists_L488, pL_lists_L514, kL_lists_L514, pL_lists_L554, kL_lists_L554, pL_lists_L574, kL_lists_L574, pL_lists_L578, kL_lists_L578, lt, if_pos h1, if_neg (n0 h3), a0, a1, a2, a3, a4, b0, b1, b2, b3, b4, nI_1, true_and]
      exact fun h => h
    · exact absurd h3 (n0 h2)
  · rcases hj with ⟨h3, rfl⟩ | ⟨h3, rfl⟩
    · exact absurd h2 (n0 h3)
    · simp only [pL_lists_L488, kL_lists_L488, pL_lists_L514, kL_lists_L514, pL_lists_L554, kL_lists_L554, pL_lists_L574, kL_lists_L574, pL_lists_L578, kL_lists_L578, lt, if_pos h1, if_pos h3, a0, a1, a2, a3, a4, b0, b1, b2, b3, b4, nI_1, true_and]
      exact fun h => h
/-- a number of a wall, and none, as the law has it and as the list has it -/
def ixR (W : Nat) (i f : Int32) : Prop := (i = -1 ∧ f = -1000000000) ∨ ∃ p : Nat, p < W ∧ i = nI p ∧ f = nI p
def mXi (w : Nat → Int32) (i x : Int32) : Int32 := if i = -1 then x else mX w i.toNatClampNeg x
def mYi (w : Nat → Int32) (i y : Int32) : Int32 := if i = -1 then y else mY w i.toNatClampNeg y
theorem nI_m1 {p : Nat} (hp : p < 2 ^ 31) : ¬ nI p = -1 := fun e => by
  have e2 := nI_toInt hp
  rw [e] at e2
  have e3 : ((-1 : Int32)).toInt = -1 := by decide
  omega
theorem mXi_n {w : Nat → Int32} {p : Nat} (hp : p < 3) (x : Int32) : mXi w (nI p) x = mX w p x := by
  unfold mXi
  rw [if_neg (nI_m1 (by omega)), nI_clamp (by omega)]
theorem mYi_n {w : Nat → Int32} {p : Nat} (hp : p < 3) (x : Int32) : mYi w (nI p) x = mY w p x := by
  unfold mYi
  rw [if_neg (nI_m1 (by omega)), nI_clamp (by omega)]
theorem m1_neg : ((-1 : Int32)) < 0 := by decide
theorem l392 {L qq r q0 : Nat} (hW : W ≤ 3) (hL : L < 12) (hq : qq < 1000) (q : QL) (Q : QLP) {x y mx my tx ty i j f f2 kd : Int32} (hi : ixR W i f) (hj : ixR W j f2) (hij : i = -1 → j = -1) (hk : kd = nI (kdOf f f2))
    (hr : pL_root ((tx - mx) * (tx - mx) + (ty - my) * (ty - my)) = nI r) (kr : kL_root ((tx - mx) * (tx - mx) + (ty - my) * (ty - my))) (hc : chain W w f f2 r q0) :
    pL_lists_L392 g m w q x y mx my (nI L) (nI qq) i j tx ty a = q x y mx my (nI (L + 1)) (nI (qq + 1)) (rowA a L kd (nI r) (nI q0) f f2) ∧ (Q x y mx my (nI (L + 1)) (nI (qq + 1)) (rowA a L kd (nI r) (nI q0) f f2) → kL_lists_L392 g m w Q x y mx my (nI L) (nI qq) i j tx ty a) := by
  obtain ⟨s0, p0, c1, c2, c3, c4, c5, c6⟩ := hc
  have nm : ¬ (0 : Int32) ≤ -1 := by decide
  subst hk
  unfold pL_lists_L392 kL_lists_L392 pL_lists_L459 kL_lists_L459
  simp only [lt, hr, c1]
  rcases hi with ⟨rfl, rfl⟩ | ⟨p, hp, rfl, rfl⟩
  · rcases hj with ⟨rfl, rfl⟩ | ⟨j', hj', rfl, rfl⟩
    · have e := l488 (g := g) (m := m) (w := w) (a := a) hL hq q Q x y mx my (nI r) (nI s0) (-1) (-1) (-1000000000) (-1000000000) (nI (kdOf (-1000000000) (-1000000000))) (Or.inl ⟨m1_neg, rfl, by unfold kdOf; rw [if_pos rfl]; rfl⟩) (Or.inl ⟨m1_neg, rfl⟩)
      have e8 : q0 = s0 := (c5 rfl).trans (c3 rfl)
      subst e8
      simp only [if_neg nm]
      exact ⟨e.1, fun h => ⟨kr, c2, e.2 h⟩⟩
    · exact absurd (hij rfl) (nI_m1 (by omega))
  · have hp0 : (0 : Int32) ≤ nI p := nI_pos' (by omega)
    have d4 := c4 p hp rfl
    obtain ⟨a2, b2⟩ := ixW (k := 2) (kk := 2) rfl (show p < 3 by omega) (by omega)
    simp only [if_pos hp0, a2, d4]
    rcases hj with ⟨rfl, rfl⟩ | ⟨j', hj', rfl, rfl⟩
    · have e := l488 (g := g) (m := m) (w := w) (a := a) hL hq q Q x y mx my (nI r) (nI p0) (nI p) (-1) (nI p) (-1000000000) (nI (kdOf (nI p) (-1000000000))) (Or.inr ⟨hp0, rfl, Or.inl ⟨m1_neg, by unfold kdOf; rw [if_neg (nI_nNO (by omega)), if_pos rfl]; rfl⟩⟩) (Or.inl ⟨m1_neg, rfl⟩)
      have e8 : q0 = p0 := c5 rfl
      subst e8
      simp only [if_neg nm]
      exact ⟨e.1, fun h => ⟨kr, c2, b2, e.2 h⟩⟩
    · have hj0 : (0 : Int32) ≤ nI j' := nI_pos' (by omega)
      have d6 := c6 j' hj' rfl
      obtain ⟨f2', g2'⟩ := ixW (k := 2) (kk := 2) rfl (show j' < 3 by omega) (by omega)
      have e := l488 (g := g) (m := m) (w := w) (a := a) hL hq q Q x y mx my (nI r) (nI q0) (nI p) (nI j') (nI p) (nI j') (nI (kdOf (nI p) (nI j'))) (Or.inr ⟨hp0, rfl, Or.inr ⟨hj0, by unfold kdOf; rw [if_neg (nI_nNO (by omega)), if_neg (nI_nNO (by omega))]; rfl⟩⟩) (Or.inr ⟨hj0, rfl⟩)
      simp only [if_pos hj0, f2', d6]
      exact ⟨e.1, fun h => ⟨kr, c2, b2, g2', e.2 h⟩⟩
theorem w01 (h : BR C R M W N b g m w) {p : Nat} (hp : p < W) : w (3 * p + 0) = 0 ∨ w (3 * p + 0) = 1 := (h.wall hp).1
/-- the places of the mirrored sources -/
theorem l256 (h : BR C R M W N b g m w) (q : QL) (Q : QLP) {x y mx my vL vq i j f f2 : Int32} (hi : ixR W i f) (hj : ixR W j f2) :
    pL_lists_L256 g m w q x y mx my vL vq i j a = pL_lists_L392 g m w q x y mx my vL vq i j (mXi w j (mXi w i x)) (mYi w j (mYi w i y)) a ∧ (kL_lists_L392 g m w Q x y mx my vL vq i j (mXi w j (mXi w i x)) (mYi w j (mYi w i y)) a → kL_lists_L256 g m w Q x y mx my vL vq i j a) := by
  have hl := h.le
  have n01 : ¬ (0 : Int32) = 1 := by decide
  have n10 : ¬ (1 : Int32) = 0 := by decide
  have u1 : pL_lists_L256 g m w q x y mx my vL vq i j a = pL_lists_L323 g m w q x y mx my vL vq i j (mXi w i x) (mYi w i y) a ∧ (kL_lists_L323 g m w Q x y mx my vL vq i j (mXi w i x) (mYi w i y) a → kL_lists_L256 g m w Q x y mx my vL vq i j a) := by
    unfold pL_lists_L256 kL_lists_L256 pL_lists_L271 kL_lists_L271 pL_lists_L289 kL_lists_L289 pL_lists_L305 kL_lists_L305
    rcases hi with ⟨rfl, rfl⟩ | ⟨p, hp, rfl, rfl⟩
    · simp only [if_pos m1_neg, mXi, mYi, if_true]
      exact ⟨trivial, fun h => h⟩
    · rw [mXi_n (by omega), mYi_n (by omega)]
      obtain ⟨a0, b0⟩ := ixW0 (show p < 3 by omega)
      obtain ⟨a1, b1⟩ := ixW (k := 1) (kk := 1) rfl (show p < 3 by omega) (by omega)
      unfold mX mY
      simp only [if_neg (nI_pos (n := p) (by omega)), a0, a1, b0, b1, true_and]
      rcases w01 h hp with e | e
      · rw [e]
        simp only [if_neg n01, if_true]
        exact ⟨trivial, fun h => h⟩
      · rw [e]
        simp only [if_neg n10, if_true]
        exact ⟨trivial, fun h => h⟩
  have u2 : pL_lists_L323 g m w q x y mx my vL vq i j (mXi w i x) (mYi w i y) a = pL_lists_L392 g m w q x y mx my vL vq i j (mXi w j (mXi w i x)) (mYi w j (mYi w i y)) a ∧ (kL_lists_L392 g m w Q x y mx my vL vq i j (mXi w j (mXi w i x)) (mYi w j (mYi w i y)) a → kL_lists_L323 g m w Q x y mx my vL vq i j (mXi w i x) (mYi w i y) a) := by
    generalize mXi w i x = sx
    generalize mYi w i y = sy
    unfold pL_lists_L323 kL_lists_L323 pL_lists_L340 kL_lists_L340 pL_lists_L358 kL_lists_L358 pL_lists_L374 kL_lists_L374
    rcases hj with ⟨rfl, rfl⟩ | ⟨p, hp, rfl, rfl⟩
    · simp only [if_pos m1_neg, mXi, mYi, if_true]
      exact ⟨trivial, fun h => h⟩
    · rw [mXi_n (by omega), mYi_n (by omega)]
      obtain ⟨a0, b0⟩ := ixW0 (show p < 3 by omega)
      obtain ⟨a1, b1⟩ := ixW (k := 1) (kk := 1) rfl (show p < 3 by omega) (by omega)
      unfold mX mY
      simp only [if_neg (nI_pos (n := p) (by omega)), a0, a1, b0, b1, true_and]
      rcases w01 h hp with e | e
      · rw [e]
        simp only [if_neg n01, if_true]
        exact ⟨trivial, fun h => h⟩
      · rw [e]
        simp only [if_neg n10, if_true]
        exact ⟨trivial, fun h => h⟩
  exact ⟨u1.1.trans u2.1, fun h => u1.2 (u2.2 h)⟩
end LROWS
