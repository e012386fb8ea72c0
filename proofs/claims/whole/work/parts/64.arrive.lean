/-! PURE: arrivals -/
section ARRIVE
variable {C R M W N : Nat} {b : BS} {S : Nat → Int32} {m : MS}
theorem msa_1 (m : MS) (k : Nat) (f : Nat → Int32) : (msa m k f).1 = m.1 := rfl
theorem msa_2 (m : MS) (k : Nat) (f : Nat → Int32) : (msa m k f).2.1 = m.2.1 := rfl
theorem msa_3 (m : MS) (k : Nat) (f : Nat → Int32) : (msa m k f).2.2 = updA m.2.2 k f := rfl
theorem msi_1 (m : MS) (k : Nat) (x : Int32) : (msi m k x).1 = upd m.1 k x := rfl
theorem msi_2 (m : MS) (k : Nat) (x : Int32) : (msi m k x).2.1 = m.2.1 := rfl
theorem msi_3 (m : MS) (k : Nat) (x : Int32) : (msi m k x).2.2 = m.2.2 := rfl
theorem msj_1 (m : MS) (k : Nat) (x : Int64) : (msj m k x).1 = m.1 := rfl
theorem msj_2 (m : MS) (k : Nat) (x : Int64) : (msj m k x).2.1 = updJ m.2.1 k x := rfl
theorem msj_3 (m : MS) (k : Nat) (x : Int64) : (msj m k x).2.2 = m.2.2 := rfl
theorem updA_eq (a : Nat → Nat → Int32) (k : Nat) (f : Nat → Int32) : updA a k f k = f := if_pos rfl
theorem updA_ne (a : Nat → Nat → Int32) {k j : Nat} (f : Nat → Int32) (h : j ≠ k) : updA a k f j = a j := if_neg h
theorem upd_eq (a : Nat → Int32) (k : Nat) (x : Int32) : upd a k x k = x := if_pos rfl
theorem upd_ne (a : Nat → Int32) {k j : Nat} (x : Int32) (h : j ≠ k) : upd a k x j = a j := if_neg h
/-- what an action of the bench keeps of the reference's state -/
def keeps (m m' : MS) : Prop := m'.1 0 = m.1 0 ∧ m'.1 1 = m.1 1 ∧ m'.1 2 = m.1 2 ∧ m'.1 7 = m.1 7 ∧ m'.2.2 1 = m.2.2 1 ∧ m'.2.2 2 = m.2.2 2 ∧ m'.2.2 3 = m.2.2 3
theorem keeps.rfl' (m : MS) : keeps m m := ⟨rfl, rfl, rfl, rfl, rfl, rfl, rfl⟩
theorem keeps.trans {a c d : MS} (h : keeps a c) (g : keeps c d) : keeps a d := ⟨g.1.trans h.1, g.2.1.trans h.2.1, g.2.2.1.trans h.2.2.1, g.2.2.2.1.trans h.2.2.2.1, g.2.2.2.2.1.trans h.2.2.2.2.1, g.2.2.2.2.2.1.trans h.2.2.2.2.2.1, g.2.2.2.2.2.2.trans h.2.2.2.2.2.2⟩
theorem wayTo_S {m m' : MS} (h : m'.2.2 0 = m.2.2 0) (x y a : Int32) : pX12_wayTo m' x y a = pX12_wayTo m x y a ∧ kX12_wayTo m' x y a = kX12_wayTo m x y a := by
  unfold pX12_wayTo kX12_wayTo pX12_of kX12_of
  rw [h]
  exact ⟨rfl, rfl⟩
theorem weaker_S {m m' : MS} (h : m'.2.2 0 = m.2.2 0) (x y : Int32) : pX12_weaker m' x y = pX12_weaker m x y ∧ kX12_weaker m' x y = kX12_weaker m x y := by
  unfold pX12_weaker kX12_weaker
  rw [h]
  exact ⟨rfl, rfl⟩
def addsT (m : MS) (L : Nat) (kd w s f g : Int32) : MS := msi (msa (msa (msa (msa (msa m 4 (upd (m.2.2 4) L kd)) 5 (upd (m.2.2 5) L w)) 6 (upd (m.2.2 6) L s)) 7 (upd (m.2.2 7) L f)) 8 (upd (m.2.2 8) L g)) 4 (nI (L + 1))
theorem adds_eq {L : Nat} {a kd x y f g w s0 s1 s2 : Int32} (h4 : m.1 4 = nI L) (hL : L < 17) (hw : pX12_wayTo m x y a = w) (h0 : 100000 / (w + 100) = s0) (h1 : pX12_weaker m s0 f = s1) (h2 : pX12_weaker m s1 g = s2) (kw : kX12_wayTo m x y a) (k0 : ¬ w + 100 = 0) (k1 : kX12_weaker m s0 f) (k2 : kX12_weaker m s1 g) : pX12_adds m a kd x y f g = addsT m L kd w s2 f g ∧ kX12_adds m a kd x y f g := by
  have v : vp_in (nI L) 17 := vp_in_n hL (by omega)
  unfold pX12_adds kX12_adds addsT
  simp only [lt, msa_1, msa_3, msi_1, h4, nI_clamp (show L < 2 ^ 31 by omega), (wayTo_S (m := m) (m' := msa m 4 (upd (m.2.2 4) L kd)) rfl x y a).1, (wayTo_S (m := m) (m' := msa m 4 (upd (m.2.2 4) L kd)) rfl x y a).2, hw]
  simp only [updA_ne (j := 5) (k := 4) m.2.2 _ (by decide), updA_eq, upd_eq, h0]
  simp only [(weaker_S (m := m) (m' := msa (msa m 4 (upd (m.2.2 4) L kd)) 5 (upd (m.2.2 5) L w)) rfl s0 f).1, (weaker_S (m := m) (m' := msa (msa m 4 (upd (m.2.2 4) L kd)) 5 (upd (m.2.2 5) L w)) rfl s0 f).2, h1, (weaker_S (m := m) (m' := msa (msa m 4 (upd (m.2.2 4) L kd)) 5 (upd (m.2.2 5) L w)) rfl s1 g).1, (weaker_S (m := m) (m' := msa (msa m 4 (upd (m.2.2 4) L kd)) 5 (upd (m.2.2 5) L w)) rfl s1 g).2, h2, nI_1]
  exact ⟨rfl, v, kw, v, v, k0, k1, k2, v, v, v⟩
def rowR (v : Int32) (t : TS) (m : MS) (k : Nat) : Prop := ∃ K w T s : Nat, K ≤ 2 ∧ w ≤ 30000 ∧ T ≤ 300000 ∧ s ≤ 1000 ∧ t.2 (k * 6 + 0) = nI K ∧ m.2.2 4 k = nI K ∧ t.2 (k * 6 + 1) = nI w ∧ m.2.2 5 k = nI w ∧ t.2 (k * 6 + 2) = nI T ∧ nI w * 1000 / v = nI T ∧ t.2 (k * 6 + 3) = nI s ∧ m.2.2 6 k = nI s ∧ t.2 (k * 6 + 4) = m.2.2 7 k ∧ t.2 (k * 6 + 5) = m.2.2 8 k
def RA (v : Int32) (L : Nat) (t : TS) (m : MS) : Prop := t.1 = nI L ∧ m.1 4 = nI L ∧ L ≤ 17 ∧ ∀ k, k < L → rowR v t m k
theorem rowR_same {v : Int32} {t t' : TS} {m m' : MS} {k : Nat} (h : rowR v t m k) (ht : ∀ c, c < 6 → t'.2 (k * 6 + c) = t.2 (k * 6 + c)) (h4 : m'.2.2 4 k = m.2.2 4 k) (h5 : m'.2.2 5 k = m.2.2 5 k) (h6 : m'.2.2 6 k = m.2.2 6 k) (h7 : m'.2.2 7 k = m.2.2 7 k) (h8 : m'.2.2 8 k = m.2.2 8 k) : rowR v t' m' k := by
  obtain ⟨K, w, T, s, a0, a1, a2, a3, b0, c0, b1, c1, b2, c2, b3, c3, b4, b5⟩ := h
  exact ⟨K, w, T, s, a0, a1, a2, a3, (ht 0 (by omega)).trans b0, h4.trans c0, (ht 1 (by omega)).trans b1, h5.trans c1, (ht 2 (by omega)).trans b2, c2, (ht 3 (by omega)).trans b3, h6.trans c3, (ht 4 (by omega)).trans (b4.trans h7.symm), (ht 5 (by omega)).trans (b5.trans h8.symm)⟩
def kdOf (f g : Int32) : Nat := (if f = -1000000000 then 0 else 1) + (if g = -1000000000 then 0 else 1)
theorem kdOf_bz (f g : Int32) : (if f = -1000000000 then (if g = -1000000000 then bz false + bz false else bz false + bz true) else (if g = -1000000000 then bz true + bz false else bz true + bz true)) = nI (kdOf f g) := by
  unfold kdOf
  by_cases e1 : f = -1000000000
  · by_cases e2 : g = -1000000000
    · simp only [if_pos e1, if_pos e2]; rfl
    · simp only [if_pos e1, if_neg e2]; rfl
  · by_cases e2 : g = -1000000000
    · simp only [if_neg e1, if_pos e2]; rfl
    · simp only [if_neg e1, if_neg e2]; rfl
theorem L34_eq {L : Nat} {t : TS} {b : BS} {x : Int32} {w T s : Nat} {f g s1 : Int32} (t0 t1 : Bool) (hx : bz t0 + bz t1 = x) (h1 : t.1 = nI L) (hL : L < 17) (hT : pX2_timeFor b (nI w) = nI T) (kT : kX2_timeFor b (nI w)) (hs : pX2_strengthBehind b g s1 = nI s) (ks : kX2_strengthBehind b g s1) :
    pX1_append_L34 (nI w) f g s1 t0 t1 t b = ((nI (L + 1), upd (upd (upd (upd (upd (upd (noneRow t.2 (L * 6) (L * 6 + 6)) (L * 6 + 0) x) (L * 6 + 1) (nI w)) (L * 6 + 2) (nI T)) (L * 6 + 3) (nI s)) (L * 6 + 4) f) (L * 6 + 5) g), b) ∧ kX1_append_L34 (nI w) f g s1 t0 t1 t b := by
  obtain ⟨t1', t2'⟩ := t
  have h1 : t1' = nI L := h1
  subst h1
  obtain ⟨a1, a2⟩ := addRow_eq (C := 17) (c := L) (w := 6) (len := 102) (cap := 17) (wid := 6) (f := t2') rfl rfl hL (by omega) (by omega) (by omega) (by omega)
  have P : ∀ (F : Nat → Int32) (k : Nat) (kk y : Int32), kk = nI k → k < 6 → pX9_put 17 6 102 (nI (L + 1), F) (nI L) kk y = (nI (L + 1), upd F (L * 6 + k) y) ∧ kX9_put 17 6 102 (nI (L + 1), F) (nI L) kk y := fun F k kk y e hk => put_in (w := 6) rfl e rfl (by omega) hk (by omega) (by omega) (by omega) (by omega)
  unfold pX1_append_L34 kX1_append_L34
  simp only [lt, bd, hx, a1, a2, hT, hs, kT, ks, true_and, (P _ 0 0 _ rfl (by omega)).1, (P _ 1 1 _ rfl (by omega)).1, (P _ 2 2 _ rfl (by omega)).1, (P _ 3 3 _ rfl (by omega)).1, (P _ 4 4 _ rfl (by omega)).1, (P _ 5 5 _ rfl (by omega)).1]
  exact ⟨(P _ 0 0 _ rfl (by omega)).2, (P _ 1 1 _ rfl (by omega)).2, (P _ 2 2 _ rfl (by omega)).2, (P _ 3 3 _ rfl (by omega)).2, (P _ 4 4 _ rfl (by omega)).2, (P _ 5 5 _ rfl (by omega)).2⟩
theorem append_eq (h : BR C R M W N b (m.2.2 0)) {L i : Nat} {t : TS} (hA : RA (m.2.2 0 7) L t m) (hL : L < 17) (hi : i < M) {x y f g kd : Int32} (hx : rg x (-9000) 11000) (hy : rg y (-9000) 11000) (hf : okIx W f) (hg : okIx W g) (hk : kd = nI (kdOf f g)) :
    ∃ t', pX1_append t b (pX2_wayTo b (nI i) x y) f g = (t', b) ∧ RA (m.2.2 0 7) (L + 1) t' (pX12_adds m (nI i) kd x y f g) ∧ keeps m (pX12_adds m (nI i) kd x y f g) ∧ (pX12_adds m (nI i) kd x y f g).2.2 0 = m.2.2 0 ∧ kX2_wayTo b (nI i) x y ∧ kX1_append t b (pX2_wayTo b (nI i) x y) f g ∧ kX12_adds m (nI i) kd x y f g := by
  obtain ⟨r, r1, r2, r3, r4, r5⟩ := way_to h hi hx hy
  obtain ⟨T, T1, T2, T3, T4, T5⟩ := time_eq h r1
  obtain ⟨s0, s1, s2, s3, s4, s5⟩ := str_eq r1
  obtain ⟨p0, p1, p2, p3, p4, p5⟩ := weak_eq h s1 hf
  obtain ⟨q0, q1, q2, q3, q4, q5⟩ := weak_eq h p1 hg
  obtain ⟨A1, A2, A3, A4⟩ := hA
  obtain ⟨e1, e2⟩ := adds_eq (kd := kd) A2 hL r3 s3 p3 q3 r5 s5 p5 q5
  have D := fun (t0 t1 : Bool) (z : Int32) (hz : bz t0 + bz t1 = z) => L34_eq (f := f) t0 t1 hz A1 hL T2 T4 q2 q4
  have hkd := kdOf_bz f g
  have hKle : kdOf f g ≤ 2 := by unfold kdOf; split <;> split <;> omega
  have E : pX1_append t b (nI r) f g = ((nI (L + 1), upd (upd (upd (upd (upd (upd (noneRow t.2 (L * 6) (L * 6 + 6)) (L * 6 + 0) (nI (kdOf f g))) (L * 6 + 1) (nI r)) (L * 6 + 2) (nI T)) (L * 6 + 3) (nI q0)) (L * 6 + 4) f) (L * 6 + 5) g), b) ∧ kX1_append t b (nI r) f g := by
    unfold pX1_append kX1_append
    simp only [lt, s2, p2]
    unfold pX1_append_L22 kX1_append_L22
    by_cases c1 : f = -1000000000
    · by_cases c2 : g = -1000000000
      · simp only [if_pos c1, if_pos c2] at hkd ⊢
        exact ⟨(D _ _ _ hkd).1, s4, p4, (D _ _ _ hkd).2⟩
      · simp only [if_pos c1, if_neg c2] at hkd ⊢
        exact ⟨(D _ _ _ hkd).1, s4, p4, (D _ _ _ hkd).2⟩
    · by_cases c2 : g = -1000000000
      · simp only [if_neg c1, if_pos c2] at hkd ⊢
        exact ⟨(D _ _ _ hkd).1, s4, p4, (D _ _ _ hkd).2⟩
      · simp only [if_neg c1, if_neg c2] at hkd ⊢
        exact ⟨(D _ _ _ hkd).1, s4, p4, (D _ _ _ hkd).2⟩
  rw [r2, E.1, e1]
  refine ⟨_, rfl, ⟨rfl, rfl, hL, ?_⟩, ⟨rfl, rfl, rfl, rfl, rfl, rfl, rfl⟩, rfl, r4, E.2, e2⟩
  intro k hkL
  by_cases ek : k = L
  · subst ek
    refine ⟨kdOf f g, r, T, q0, hKle, r1, T1, q1, ?_, ?_, ?_, ?_, ?_, T3, ?_, ?_, ?_, ?_⟩
    · show upd _ _ _ _ = _
      rw [upd_ne _ _ (by omega), upd_ne _ _ (by omega), upd_ne _ _ (by omega), upd_ne _ _ (by omega), upd_ne _ _ (by omega), upd_eq]
    · exact (upd_eq _ _ _).trans hk
    · show upd _ _ _ _ = _
      rw [upd_ne _ _ (by omega), upd_ne _ _ (by omega), upd_ne _ _ (by omega), upd_ne _ _ (by omega), upd_eq]
    · exact upd_eq _ _ _
    · show upd _ _ _ _ = _
      rw [upd_ne _ _ (by omega), upd_ne _ _ (by omega), upd_ne _ _ (by omega), upd_eq]
    · show upd _ _ _ _ = _
      rw [upd_ne _ _ (by omega), upd_ne _ _ (by omega), upd_eq]
    · exact upd_eq _ _ _
    · show upd _ _ _ _ = upd _ _ _ _
      rw [upd_ne _ _ (by omega), upd_eq, upd_eq]
    · show upd _ _ _ _ = upd _ _ _ _
      rw [upd_eq, upd_eq]
  · refine rowR_same (A4 k (by omega)) ?_ (upd_ne _ _ ek) (upd_ne _ _ ek) (upd_ne _ _ ek) (upd_ne _ _ ek) (upd_ne _ _ ek)
    intro c hc
    show upd _ _ _ _ = _
    rw [upd_ne _ _ (by omega), upd_ne _ _ (by omega), upd_ne _ _ (by omega), upd_ne _ _ (by omega), upd_ne _ _ (by omega), upd_ne _ _ (by omega)]
    unfold noneRow
    rw [if_neg (by omega)]
end ARRIVE
