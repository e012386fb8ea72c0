/-! PURE: what is saved, and restored -/
section UNDO
variable {C R M W N : Nat} {b b' : BS} {S S' : Nat → Int32} {m : MS}
theorem BR.eqS (h : BR C R M W N b S) (e : ∀ q, q < 122 → S' q = S q) : BR C R M W N b S' := by
  have hl := h.le
  have hs := h.set
  refine ⟨⟨(e 0 (by omega)).trans h.eC, (e 1 (by omega)).trans h.eR, (e 2 (by omega)).trans h.eM, (e 3 (by omega)).trans h.eW, (e 4 (by omega)).trans h.eN, hl.1, hl.2.1, hl.2.2, fun i hi => okMic_same (h.mic hi) (fun k hk => e _ (by omega)), fun i hi => okWall_same (h.wall hi) (fun k hk => e _ (by omega)), fun i hi => okScr_same (h.scr hi) (fun k hk => e _ (by omega)), ?_⟩, ?_⟩
  · unfold okSet at hs ⊢
    rw [e 6 (by omega), e 7 (by omega), e 8 (by omega), e 9 (by omega), e 10 (by omega), e 11 (by omega), e 12 (by omega), e 13 (by omega)]
    exact hs
  · unfold relB
    rw [e 0 (by omega), e 1 (by omega), e 2 (by omega), e 3 (by omega), e 4 (by omega), e 5 (by omega), e 6 (by omega)]
    refine ⟨h.b0.trans h.eC.symm, h.b1.trans h.eR.symm, h.b2, h.b3, h.b4.trans h.eM.symm, h.b5.trans h.eW.symm, h.b6.trans h.eN.symm, h.b7, fun i hi => micR_same (i := i) (h.mR hi) (fun k hk => rfl) (fun k hk => e _ (by omega)), fun i hi k hk => ?_, fun i hi k hk => ?_, fun k hk => ?_⟩
    · rw [e _ (by omega)]; exact h.wallR hi hk
    · rw [e _ (by omega)]; exact h.scrR hi hk
    · rw [e _ (by omega)]; exact h.setR hk
def eqB (b b' : BS) : Prop := (∀ k, k < 8 → b'.1 k = b.1 k) ∧ (∀ q, q < 72 → b'.2 0 q = b.2 0 q) ∧ (∀ q, q < 12 → b'.2 1 q = b.2 1 q) ∧ (∀ q, q < 16 → b'.2 2 q = b.2 2 q) ∧ (∀ q, q < 7 → b'.2 3 q = b.2 3 q)
theorem BR.eqB (h : BR C R M W N b S) (e : eqB b b') : BR C R M W N b' S := by
  have hl := h.le
  obtain ⟨e0, e1, e2, e3, e4⟩ := e
  refine ⟨h.1, ?_⟩
  unfold relB
  rw [e0 0 (by omega), e0 1 (by omega), e0 2 (by omega), e0 3 (by omega), e0 4 (by omega), e0 5 (by omega), e0 6 (by omega), e0 7 (by omega)]
  refine ⟨h.b0.trans h.eC.symm, h.b1.trans h.eR.symm, h.b2, h.b3, h.b4.trans h.eM.symm, h.b5.trans h.eW.symm, h.b6.trans h.eN.symm, h.b7, fun i hi => micR_same (i := i) (h.mR hi) (fun k hk => e1 _ (by omega)) (fun k hk => rfl), fun i hi k hk => ?_, fun i hi k hk => ?_, fun k hk => ?_⟩
  · rw [e2 _ (by omega)]; exact h.wallR hi hk
  · rw [e3 _ (by omega)]; exact h.scrR hi hk
  · rw [e4 _ (by omega)]; exact h.setR hk
theorem BRx.eqB (h : BRx b S) (e : eqB b b') : BRx b' S := by
  obtain ⟨C, R, M, W, N, h⟩ := h
  exact ⟨C, R, M, W, N, h.eqB e⟩
theorem BRx.eqS (h : BRx b S) (e : ∀ q, q < 122 → S' q = S q) : BRx b S' := by
  obtain ⟨C, R, M, W, N, h⟩ := h
  exact ⟨C, R, M, W, N, h.eqS e⟩
theorem bst_id (b : BS) (j : Nat) : bst b j (b.1 (4 + j), b.2 j) = b := by
  unfold bst
  rw [upd_self, updA_self]
theorem cpy0 {f g : Nat → Int32} {n q : Nat} (h : q < n) : va_cpy f g 0 0 n q = f q := by
  rw [pk_cpy_in (Nat.zero_le _) (by omega)]
  congr 1
  omega
theorem copy_eq (b b2 : BS) : ∃ b', pX2_copyFrom b b2 = (b', b2) ∧ eqB b2 b' ∧ kX2_copyFrom b b2 := by
  have T := fun (cap wid cap2 wid2 : Int32) (len : Nat) (t t2 : TS) (h : len < 2 ^ 31) => tcopy_eq (cap := cap) (wid := wid) (cap2 := cap2) (wid2 := wid2) (len := len) (t := t) (t2 := t2) h
  unfold pX2_copyFrom kX2_copyFrom
  simp only [lt, (T _ _ _ _ 72 _ _ (by omega)).1, (T _ _ _ _ 12 _ _ (by omega)).1, (T _ _ _ _ 16 _ _ (by omega)).1, (T _ _ _ _ 7 _ _ (by omega)).1]
  have i0 : bst b2 0 (b2.1 4, b2.2 0) = b2 := bst_id b2 0
  have i1 : bst b2 1 (b2.1 5, b2.2 1) = b2 := bst_id b2 1
  have i2 : bst b2 2 (b2.1 6, b2.2 2) = b2 := bst_id b2 2
  have i3 : bst b2 3 (b2.1 7, b2.2 3) = b2 := bst_id b2 3
  rw [i0, i1, i2, i3]
  refine ⟨_, rfl, ⟨fun k hk => ?_, fun q hq => ?_, fun q hq => ?_, fun q hq => ?_, fun q hq => ?_⟩, (T _ _ _ _ 72 _ _ (by omega)).2, (T _ _ _ _ 12 _ _ (by omega)).2, (T _ _ _ _ 16 _ _ (by omega)).2, (T _ _ _ _ 7 _ _ (by omega)).2⟩
  · have hc : k = 0 ∨ k = 1 ∨ k = 2 ∨ k = 3 ∨ k = 4 ∨ k = 5 ∨ k = 6 ∨ k = 7 := by omega
    rcases hc with rfl | rfl | rfl | rfl | rfl | rfl | rfl | rfl <;> rfl
  · exact cpy0 (g := b.2 0) hq
  · exact cpy0 (g := b.2 1) hq
  · exact cpy0 (g := b.2 2) hq
  · exact cpy0 (g := b.2 3) hq
theorem hold_L : ∀ (n k : Nat), k ≤ 122 → 122 - k < n → ∀ m : MS, ∃ F, pX12_hold_L2 n (nI k) m = msa m 2 F ∧ kX12_hold_L2 n (nI k) m ∧ ∀ q, F q = if k ≤ q ∧ q < 122 then m.2.2 0 q else m.2.2 2 q := by
  intro n
  induction n with
  | zero => intro k h1 h2; omega
  | succ n ih =>
    intro k h1 h2 m
    show ∃ F, bX12_hold_L2 (pX12_hold_L2 n) _ _ = _ ∧ kbX12_hold_L2 (kX12_hold_L2 n) _ _ ∧ _
    unfold bX12_hold_L2 kbX12_hold_L2
    by_cases e : k = 122
    · subst e
      simp only [if_pos (show (122 : Int32) ≤ nI 122 from by decide)]
      exact ⟨m.2.2 2, by unfold msa; rw [updA_self], trivial, fun q => by rw [if_neg (by omega)]⟩
    · simp only [if_neg (show ¬ (122 : Int32) ≤ nI k from nI_ge (b := 122) (by omega) (by omega)), nI_clamp (show k < 2 ^ 31 by omega), lt, nI_1]
      obtain ⟨F, f1, f2, f3⟩ := ih (k + 1) (by omega) (by omega) (msa m 2 (upd (m.2.2 2) k (m.2.2 0 k)))
      rw [msa_msa] at f1
      have V : vp_in (nI k) 122 := vp_in_n (by omega) (by omega)
      refine ⟨F, f1, ⟨V, V, f2⟩, fun q => ?_⟩
      rw [f3 q, msa_3, updA_eq, updA_ne _ _ (by omega)]
      unfold upd
      by_cases c : q = k
      · rw [if_pos c, if_neg (by omega), if_pos (by omega), c]
      · rw [if_neg c]
        by_cases d : k ≤ q ∧ q < 122
        · rw [if_pos d, if_pos (by omega)]
        · rw [if_neg d, if_neg (by omega)]
theorem hold_eq (m : MS) : ∃ F, pX12_hold m = msa m 2 F ∧ kX12_hold m ∧ ∀ q, q < 122 → F q = m.2.2 0 q := by
  obtain ⟨F, f1, f2, f3⟩ := hold_L fu 0 (by omega) (by have := fu_ge; omega) m
  exact ⟨F, f1, f2, fun q hq => by rw [f3 q, if_pos (by omega)]⟩
theorem pst_ix {P q : Nat} (hP : P < 4) (hq : q < 122) : (122 * nI P + nI q : Int32) = nI (122 * P + q) ∧ (nI (122 * P + q)).toNatClampNeg = 122 * P + q ∧ vp_in (nI (122 * P + q)) 488 := by
  refine ⟨?_, nI_clamp (by omega), vp_in_n (by omega) (by omega)⟩
  rw [show (122 : Int32) = nI 122 from rfl, pk_mul, nI_add]
theorem ends50_L {P : Nat} (hP : P < 4) (a : Int32) : ∀ (n k : Nat), k ≤ 122 → 122 - k < n → ∀ m : MS, m.1 0 = nI P → ∃ G, pX12_ends_L50 n a (nI k) m = (a, msi (msi (msa m 1 G) 0 (nI (P + 1))) 3 0) ∧ kX12_ends_L50 n a (nI k) m ∧ (∀ q, q < 122 * P + k → G q = m.2.2 1 q) ∧ (∀ q, k ≤ q → q < 122 → G (122 * P + q) = m.2.2 2 q) := by
  intro n
  induction n with
  | zero => intro k h1 h2; omega
  | succ n ih =>
    intro k h1 h2 m h0
    show ∃ G, bX12_ends_L50 (pX12_ends_L50 n) _ _ _ = _ ∧ kbX12_ends_L50 (kX12_ends_L50 n) _ _ _ ∧ _
    unfold bX12_ends_L50 kbX12_ends_L50 pX12_tells
    by_cases e : k = 122
    · subst e
      simp only [if_pos (show (122 : Int32) ≤ nI 122 from by decide), lt, bd, h0, nI_1]
      exact ⟨m.2.2 1, by rw [show msa m 1 (m.2.2 1) = m by unfold msa; rw [updA_self]], trivial, fun q hq => rfl, fun q q1 q2 => by omega⟩
    · obtain ⟨x1, x2, x3⟩ := pst_ix (q := k) hP (by omega)
      simp only [if_neg (show ¬ (122 : Int32) ≤ nI k from nI_ge (b := 122) (by omega) (by omega)), nI_clamp (show k < 2 ^ 31 by omega), lt, nI_1, h0, x1, x2]
      obtain ⟨G, g1, g2, g3, g4⟩ := ih (k + 1) (by omega) (by omega) (msa m 1 (upd (m.2.2 1) (122 * P + k) (m.2.2 2 k))) h0
      rw [msa_msa] at g1
      refine ⟨G, g1, ⟨vp_in_n (by omega) (by omega), x3, g2⟩, fun q hq => ?_, fun q q1 q2 => ?_⟩
      · rw [g3 q (by omega), msa_3, updA_eq, upd_ne _ _ (by omega)]
      · by_cases c : q = k
        · subst c
          rw [g3 _ (by omega), msa_3, updA_eq, upd_eq]
        · rw [g4 q (by omega) q2, msa_3, updA_ne _ _ (by omega)]
theorem ends10_L (a : Int32) : ∀ (n k : Nat), k ≤ 366 → 366 - k < n → ∀ m : MS, m.1 0 = nI 4 → ∃ G, pX12_ends_L10 n a (nI k) m = pX12_ends_L48 a (msi (msa m 1 G) 0 (nI 3)) ∧ (kX12_ends_L48 a (msi (msa m 1 G) 0 (nI 3)) → kX12_ends_L10 n a (nI k) m) ∧ (∀ q, q < k → G q = m.2.2 1 q) ∧ (∀ q, k ≤ q → q < 366 → G q = m.2.2 1 (q + 122)) := by
  intro n
  induction n with
  | zero => intro k h1 h2; omega
  | succ n ih =>
    intro k h1 h2 m h0
    show ∃ G, bX12_ends_L10 (pX12_ends_L10 n) _ _ _ = _ ∧ (_ → kbX12_ends_L10 (kX12_ends_L10 n) _ _ _) ∧ _
    unfold bX12_ends_L10 kbX12_ends_L10
    by_cases e : k = 366
    · subst e
      simp only [if_pos (show (366 : Int32) ≤ nI 366 from by decide), lt, h0, show nI 4 - 1 = nI 3 from nI_pred 3]
      refine ⟨m.2.2 1, ?_, ?_, fun q hq => rfl, fun q q1 q2 => by omega⟩
      · rw [show msa m 1 (m.2.2 1) = m by unfold msa; rw [updA_self]]
      · rw [show msa m 1 (m.2.2 1) = m by unfold msa; rw [updA_self]]
        exact fun h => h
    · simp only [if_neg (show ¬ (366 : Int32) ≤ nI k from nI_ge (b := 366) (by omega) (by omega)), nI_clamp (show k < 2 ^ 31 by omega), lt, show nI k + (122 : Int32) = nI (k + 122) from nI_add k 122, nI_clamp (show k + 122 < 2 ^ 31 by omega), nI_1]
      obtain ⟨G, g1, g2, g3, g4⟩ := ih (k + 1) (by omega) (by omega) (msa m 1 (upd (m.2.2 1) k (m.2.2 1 (k + 122)))) h0
      rw [msa_msa] at g1 g2
      refine ⟨G, g1, fun hk => ⟨vp_in_n (by omega) (by omega), vp_in_n (by omega) (by omega), g2 hk⟩, fun q hq => ?_, fun q q1 q2 => ?_⟩
      · rw [g3 q (by omega), msa_3, updA_eq, upd_ne _ _ (by omega)]
      · by_cases c : q = k
        · subst c
          rw [g3 _ (by omega), msa_3, updA_eq, upd_eq]
        · rw [g4 q (by omega) q2, msa_3, updA_eq, upd_ne _ _ (by omega)]
/-- the undo stacks of both -/
def UR (u : US) (m : MS) : Prop := ∃ P nx : Nat, P ≤ 4 ∧ nx < 4 ∧ m.1 0 = nI P ∧ u.1 1 = nI P ∧ u.1 0 = nI nx ∧ ∀ e, e < P → BRx (u.2 ((nx + 4 - P + e) % 4)) (fun q => m.2.2 1 (122 * e + q))
theorem UR.same {u : US} {m m' : MS} (h : UR u m) (h0 : m'.1 0 = m.1 0) (h1 : m'.2.2 1 = m.2.2 1) : UR u m' := by
  obtain ⟨P, nx, a1, a2, a3, a4, a5, a6⟩ := h
  exact ⟨P, nx, a1, a2, h0.trans a3, a4, a5, by rw [h1]; exact a6⟩
theorem usb_ne (u : US) {k j : Nat} (x : BS) (h : j ≠ k) : (usb u k x).2 j = u.2 j := if_neg h
theorem usb_eq (u : US) (k : Nat) (x : BS) : (usb u k x).2 k = x := if_pos rfl
theorem push_eq {u : US} {P nx : Nat} (hP : P ≤ 4) (hn : nx < 4) (h1 : u.1 1 = nI P) (h0 : u.1 0 = nI nx) (b : BS) : ∃ (u' : US) (b' : BS), pX10_push u b = (u', b) ∧ kX10_push u b ∧ u'.1 0 = nI ((nx + 1) % 4) ∧ u'.1 1 = nI (min (P + 1) 4) ∧ (∀ j, j ≠ nx → u'.2 j = u.2 j) ∧ u'.2 nx = b' ∧ eqB b b' := by
  have L : ∀ (k : Nat) (x : BS), pX10_push_L19 (usb u k x) b = (usi (usi (usb u k x) 0 (nI ((nx + 1) % 4))) 1 (nI (min (P + 1) 4)), b) := by
    intro k x
    unfold pX10_push_L19
    simp only [lt]
    have e0 : (usb u k x).1 0 = nI nx := h0
    have e1 : (usi (usb u k x) 0 (nI ((nx + 1) % 4))).1 1 = nI P := h1
    have er : nI (nx + 1) - nI (nx + 1) / 4 * 4 = nI ((nx + 1) % 4) := pk_rem (d := 4) (by omega) (by omega) (by omega)
    have em : jmin (nI (P + 1)) 4 = nI (min (P + 1) 4) := by
      apply Int32.toInt_inj.mp
      rw [jmin_ti, nI_toInt (by omega), nI_toInt (by omega), show ((4 : Int32)).toInt = 4 from rfl]
      omega
    rw [e0, nI_1, er, e1, nI_1, em]
  unfold pX10_push kX10_push
  rw [h0]
  have hc : nx = 0 ∨ nx = 1 ∨ nx = 2 ∨ nx = 3 := by omega
  rcases hc with rfl | rfl | rfl | rfl
  · obtain ⟨b', c1, c2, c3⟩ := copy_eq (u.2 0) b
    simp only [if_pos (show nI 0 = 0 from rfl), lt, c1, L]
    exact ⟨_, b', rfl, c3, rfl, rfl, fun j hj => usb_ne u b' hj, usb_eq u 0 b', c2⟩
  · obtain ⟨b', c1, c2, c3⟩ := copy_eq (u.2 1) b
    simp only [if_neg (show ¬ nI 1 = 0 from by decide), if_pos (show nI 1 = 1 from rfl), lt, c1, L]
    exact ⟨_, b', rfl, c3, rfl, rfl, fun j hj => usb_ne u b' hj, usb_eq u 1 b', c2⟩
  · obtain ⟨b', c1, c2, c3⟩ := copy_eq (u.2 2) b
    simp only [if_neg (show ¬ nI 2 = 0 from by decide), if_neg (show ¬ nI 2 = 1 from by decide), if_pos (show nI 2 = 2 from rfl), lt, c1, L]
    exact ⟨_, b', rfl, c3, rfl, rfl, fun j hj => usb_ne u b' hj, usb_eq u 2 b', c2⟩
  · obtain ⟨b', c1, c2, c3⟩ := copy_eq (u.2 3) b
    simp only [if_neg (show ¬ nI 3 = 0 from by decide), if_neg (show ¬ nI 3 = 1 from by decide), if_neg (show ¬ nI 3 = 2 from by decide), lt, c1, L]
    exact ⟨_, b', rfl, ⟨rfl, c3⟩, rfl, rfl, fun j hj => usb_ne u b' hj, usb_eq u 3 b', c2⟩
/-- an end of an undoable action: m is the state behind the action, b the bench before it -/
theorem ends_eq {u : US} (h : UR u m) {b : BS} (hb : BRx b (m.2.2 2)) (a : Int32) : ∃ (u' : US) (m' : MS), pX10_push u b = (u', b) ∧ kX10_push u b ∧ pX12_ends m a = (a, m') ∧ kX12_ends m a ∧ UR u' m' ∧ m'.2.2 0 = m.2.2 0 ∧ m'.2.2 3 = m.2.2 3 ∧ m'.1 1 = m.1 1 ∧ m'.1 2 = m.1 2 ∧ m'.1 7 = m.1 7 ∧ m'.1 3 = 0 := by
  obtain ⟨P, nx, a1, a2, a3, a4, a5, a6⟩ := h
  obtain ⟨u', b', p1, p2, p3, p4, p5, p6, p7⟩ := push_eq a1 a2 a4 a5 b
  unfold pX12_ends kX12_ends pX12_ends_L48 kX12_ends_L48
  by_cases e : P = 4
  · subst e
    obtain ⟨G, g1, g2, g3, g4⟩ := ends10_L a fu 0 (by omega) (by have := fu_ge; omega) m a3
    obtain ⟨H, q1, q2, q3, q4⟩ := ends50_L (P := 3) (by omega) a fu 0 (by omega) (by have := fu_ge; omega) (msi (msa m 1 G) 0 (nI 3)) (show upd m.1 0 (nI 3) 0 = nI 3 from upd_eq _ _ _)
    have q3 : ∀ q, q < 122 * 3 + 0 → H q = G q := q3
    have q4 : ∀ q, 0 ≤ q → q < 122 → H (122 * 3 + q) = m.2.2 2 q := q4
    unfold pX12_ends_L48 at g1
    unfold kX12_ends_L48 at g2
    rw [a3, if_pos (show nI 4 = 4 from rfl), if_pos (show nI 4 = 4 from rfl), show (0 : Int32) = nI 0 from rfl, g1, show (0 : Int32) = nI 0 from rfl, q1]
    refine ⟨u', _, p1, p2, rfl, g2 q2, ⟨4, (nx + 1) % 4, by omega, by omega, rfl, p4, p3, fun e he => ?_⟩, rfl, rfl, rfl, rfl, rfl, rfl⟩
    show BRx _ (fun q => H (122 * e + q))
    by_cases e3 : e = 3
    · subst e3
      rw [show ((nx + 1) % 4 + 4 - 4 + 3) % 4 = nx by omega, p6]
      exact (hb.eqB p7).eqS (fun q hq => q4 q (by omega) hq)
    · rw [show ((nx + 1) % 4 + 4 - 4 + e) % 4 = (nx + 4 - 4 + (e + 1)) % 4 by omega, p5 _ (by omega)]
      refine (a6 (e + 1) (by omega)).eqS (fun q hq => ?_)
      show H (122 * e + q) = m.2.2 1 (122 * (e + 1) + q)
      rw [q3 _ (by omega), g4 _ (by omega) (by omega), show 122 * (e + 1) + q = 122 * e + q + 122 by omega]
  · have hP : P < 4 := by omega
    have n4 : ¬ nI P = 4 := fun h => e ((nI_eq (b := 4) (by omega) (by omega)).mp h)
    obtain ⟨H, q1, q2, q3, q4⟩ := ends50_L (P := P) hP a fu 0 (by omega) (by have := fu_ge; omega) m a3
    rw [a3, if_neg n4, if_neg n4, show (0 : Int32) = nI 0 from rfl, q1]
    refine ⟨u', _, p1, p2, rfl, q2, ⟨P + 1, (nx + 1) % 4, by omega, by omega, rfl, by rw [p4]; congr 1; omega, p3, fun e he => ?_⟩, rfl, rfl, rfl, rfl, rfl, rfl⟩
    show BRx _ (fun q => H (122 * e + q))
    by_cases e3 : e = P
    · rw [e3, show ((nx + 1) % 4 + 4 - (P + 1) + P) % 4 = nx by omega, p6]
      exact (hb.eqB p7).eqS (fun q hq => q4 q (by omega) hq)
    · rw [show ((nx + 1) % 4 + 4 - (P + 1) + e) % 4 = (nx + 4 - P + e) % 4 by omega, p5 _ (by omega)]
      refine (a6 e (by omega)).eqS (fun q hq => ?_)
      show H (122 * e + q) = m.2.2 1 (122 * e + q)
      exact q3 _ (by omega)
theorem undo_L {P : Nat} (hP : P < 4) : ∀ (n k : Nat), k ≤ 122 → 122 - k < n → ∀ m : MS, m.1 0 = nI P → ∃ F, pX12_undo_L25 n (nI k) m = (nI P, msi (msa m 0 F) 3 0) ∧ kX12_undo_L25 n (nI k) m ∧ (∀ q, q < k → F q = m.2.2 0 q) ∧ (∀ q, k ≤ q → q < 122 → F q = m.2.2 1 (122 * P + q)) := by
  intro n
  induction n with
  | zero => intro k h1 h2; omega
  | succ n ih =>
    intro k h1 h2 m h0
    show ∃ G, bX12_undo_L25 (pX12_undo_L25 n) _ _ = _ ∧ kbX12_undo_L25 (kX12_undo_L25 n) _ _ ∧ _
    unfold bX12_undo_L25 kbX12_undo_L25 pX12_tells
    by_cases e : k = 122
    · subst e
      simp only [if_pos (show (122 : Int32) ≤ nI 122 from by decide), lt, bd, h0]
      exact ⟨m.2.2 0, by rw [show msa m 0 (m.2.2 0) = m by unfold msa; rw [updA_self]], trivial, fun q hq => rfl, fun q q1 q2 => by omega⟩
    · obtain ⟨x1, x2, x3⟩ := pst_ix (q := k) hP (by omega)
      simp only [if_neg (show ¬ (122 : Int32) ≤ nI k from nI_ge (b := 122) (by omega) (by omega)), nI_clamp (show k < 2 ^ 31 by omega), lt, nI_1, h0, x1, x2]
      obtain ⟨G, g1, g2, g3, g4⟩ := ih (k + 1) (by omega) (by omega) (msa m 0 (upd (m.2.2 0) k (m.2.2 1 (122 * P + k)))) h0
      rw [msa_msa] at g1
      refine ⟨G, g1, ⟨x3, vp_in_n (by omega) (by omega), g2⟩, fun q hq => ?_, fun q q1 q2 => ?_⟩
      · rw [g3 q (by omega), msa_3, updA_eq, upd_ne _ _ (by omega)]
      · by_cases c : q = k
        · subst c
          rw [g3 _ (by omega), msa_3, updA_eq, upd_eq]
        · rw [g4 q (by omega) q2, msa_3, updA_ne _ _ (by omega)]
theorem usb_id (u : US) (k : Nat) : usb u k (u.2 k) = u := by
  unfold usb
  have : (fun j => if j = k then u.2 k else u.2 j) = u.2 := by
    funext j
    by_cases e : j = k
    · rw [if_pos e, e]
    · rw [if_neg e]
  rw [this]
theorem pop_eq {u : US} {P nx : Nat} (hP : P ≤ 4) (hP0 : 0 < P) (hn : nx < 4) (h1 : u.1 1 = nI P) (h0 : u.1 0 = nI nx) (b : BS) : ∃ (u' : US) (b' : BS), pX10_pop u b = (u', b') ∧ kX10_pop u b ∧ u'.1 0 = nI ((nx + 3) % 4) ∧ u'.1 1 = nI (P - 1) ∧ u'.2 = u.2 ∧ eqB (u.2 ((nx + 3) % 4)) b' := by
  obtain ⟨v, hv⟩ : ∃ v, v = usi (usi u 0 (nI ((nx + 3) % 4))) 1 (nI (P - 1)) := ⟨_, rfl⟩
  have v0 : v.1 0 = nI ((nx + 3) % 4) := by rw [hv]; rfl
  have v1 : v.1 1 = nI (P - 1) := by rw [hv]; rfl
  have v2 : v.2 = u.2 := by rw [hv]; rfl
  have er : nI (nx + 4) - 1 - (nI (nx + 4) - 1) / 4 * 4 = nI ((nx + 3) % 4) := by
    rw [show nI (nx + 4) - 1 = nI (nx + 3) from nI_pred (nx + 3)]
    exact pk_rem (d := 4) (by omega) (by omega) (by omega)
  have ep : nI P - 1 = nI (P - 1) := by
    obtain ⟨p, rfl⟩ : ∃ p, P = p + 1 := ⟨P - 1, by omega⟩
    exact nI_pred p
  have ev : usi (usi u 0 (u.1 0 + 4 - 1 - (u.1 0 + 4 - 1) / 4 * 4)) 1 ((usi u 0 (u.1 0 + 4 - 1 - (u.1 0 + 4 - 1) / 4 * 4)).1 1 - 1) = v := by
    rw [hv, h0, show nI nx + (4 : Int32) = nI (nx + 4) from nI_add nx 4, er]
    rw [show (usi u 0 (nI ((nx + 3) % 4))).1 1 = nI P from h1, ep]
  unfold pX10_pop kX10_pop
  rw [h1, if_neg (nI_ne0 (by omega) (by omega)), if_neg (nI_ne0 (by omega) (by omega))]
  simp only [lt]
  rw [ev, v0]
  have hc : (nx + 3) % 4 = 0 ∨ (nx + 3) % 4 = 1 ∨ (nx + 3) % 4 = 2 ∨ (nx + 3) % 4 = 3 := by omega
  rcases hc with e | e | e | e
  · obtain ⟨b', c1, c2, c3⟩ := copy_eq b (v.2 0)
    rw [e] at v0 ⊢
    simp only [if_pos (show nI 0 = 0 from rfl), c1, usb_id]
    exact ⟨v, b', rfl, c3, v0, v1, v2, v2 ▸ c2⟩
  · obtain ⟨b', c1, c2, c3⟩ := copy_eq b (v.2 1)
    rw [e] at v0 ⊢
    simp only [if_neg (show ¬ nI 1 = 0 from by decide), if_pos (show nI 1 = 1 from rfl), c1, usb_id]
    exact ⟨v, b', rfl, c3, v0, v1, v2, v2 ▸ c2⟩
  · obtain ⟨b', c1, c2, c3⟩ := copy_eq b (v.2 2)
    rw [e] at v0 ⊢
    simp only [if_neg (show ¬ nI 2 = 0 from by decide), if_neg (show ¬ nI 2 = 1 from by decide), if_pos (show nI 2 = 2 from rfl), c1, usb_id]
    exact ⟨v, b', rfl, c3, v0, v1, v2, v2 ▸ c2⟩
  · obtain ⟨b', c1, c2, c3⟩ := copy_eq b (v.2 3)
    rw [e] at v0 ⊢
    simp only [if_neg (show ¬ nI 3 = 0 from by decide), if_neg (show ¬ nI 3 = 1 from by decide), if_neg (show ¬ nI 3 = 2 from by decide), c1, usb_id]
    exact ⟨v, b', rfl, ⟨rfl, c3⟩, v0, v1, v2, v2 ▸ c2⟩
theorem undo_eq {u : US} (h : UR u m) (b : BS) : (u.1 1 = 0 ∧ pX12_undo m = (0, msi m 3 1) ∧ kX12_undo m) ∨ (¬ u.1 1 = 0 ∧ kX12_undo m ∧ kX10_pop u b ∧ ∃ (u' : US) (b' : BS) (m' : MS), pX10_pop u b = (u', b') ∧ pX12_undo m = (u'.1 1, m') ∧ UR u' m' ∧ BRx b' (m'.2.2 0) ∧ m'.2.2 3 = m.2.2 3 ∧ m'.1 1 = m.1 1 ∧ m'.1 2 = m.1 2 ∧ m'.1 7 = m.1 7 ∧ m'.1 3 = 0) := by
  obtain ⟨P, nx, a1, a2, a3, a4, a5, a6⟩ := h
  unfold pX12_undo kX12_undo
  rw [a3, a4]
  by_cases e : P = 0
  · subst e
    simp only [if_pos (show nI 0 = 0 from rfl)]
    exact Or.inl ⟨rfl, rfl, trivial⟩
  · have ne : ¬ nI P = 0 := nI_ne0 (by omega) (by omega)
    obtain ⟨u', b', p1, p2, p3, p4, p5, p6⟩ := pop_eq a1 (by omega) a2 a4 a5 b
    obtain ⟨p, rfl⟩ : ∃ p, P = p + 1 := ⟨P - 1, by omega⟩
    obtain ⟨F, f1, f2, f3, f4⟩ := undo_L (P := p) (by omega) fu 0 (by omega) (by have := fu_ge; omega) (msi m 0 (nI p)) (show upd m.1 0 (nI p) 0 = nI p from upd_eq _ _ _)
    have f4 : ∀ q, 0 ≤ q → q < 122 → F q = m.2.2 1 (122 * p + q) := f4
    refine Or.inr ⟨ne, ?_, p2, u', b', msi (msa (msi m 0 (nI p)) 0 F) 3 0, p1, ?_, ⟨p, (nx + 3) % 4, by omega, by omega, rfl, p4, p3, fun e he => ?_⟩, ?_, rfl, rfl, rfl, rfl, rfl⟩
    · simp only [if_neg ne, lt, nI_pred]
      exact f2
    · simp only [if_neg ne, lt, nI_pred]
      rw [p4]
      exact f1
    · rw [p5, show ((nx + 3) % 4 + 4 - p + e) % 4 = (nx + 4 - (p + 1) + e) % 4 by omega]
      exact a6 e (by omega)
    · have g := a6 p (by omega)
      rw [show (nx + 4 - (p + 1) + p) % 4 = (nx + 3) % 4 by omega] at g
      exact (g.eqB p6).eqS (fun q hq => f4 q (by omega) hq)
end UNDO
