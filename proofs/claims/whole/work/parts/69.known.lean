/-! PURE: a known click -/
section KNOWN
variable {C R M W N : Nat} {b b' : BS} {S S' : Nat → Int32} {m : MS}
theorem BR.off (h : BR C R M W N b S) {i : Nat} (hi : i < M) {x : Int32} (hx : rg x (-301000) 301000) : BR C R M W N (bst b 0 (nI M, upd (b.2 0) (i * 9 + 3) x)) (upd S (14 + 10 * i + 3) x) := by
  refine h.row hi _ (fun q hq => upd_ne _ _ (by omega)) (fun q hq => upd_ne _ _ (by omega)) ?_ ⟨?_, ?_, ?_⟩
  · have hm := h.mic hi
    unfold okMic at hm ⊢
    rw [upd_eq, upd_ne _ _ (by omega), upd_ne _ _ (by omega), upd_ne _ _ (by omega), upd_ne _ _ (by omega), upd_ne _ _ (by omega)]
    exact ⟨hm.1, hm.2.1, hm.2.2.1, hx, hm.2.2.2.2⟩
  · intro k hk
    show upd _ _ _ _ = _
    by_cases e : k = 3
    · subst e; rw [upd_eq, upd_eq]
    · rw [upd_ne _ _ (by omega), upd_ne _ _ (by omega)]
      exact (h.mR hi).1 k hk
  · intro h4
    rw [upd_ne _ _ (by omega)] at h4
    obtain ⟨g1, g2⟩ := (h.mR hi).2.1 h4
    refine ⟨?_, fun k hk => ?_⟩
    · show upd _ _ _ _ = _
      rw [upd_ne _ _ (by omega), upd_ne _ _ (by omega)]
      exact g1
    · show upd _ _ _ _ = _
      rw [upd_ne _ _ (by omega), upd_ne _ _ (by omega)]
      exact g2 k hk
  · intro h4 k hk
    rw [upd_ne _ _ (by omega)] at h4
    show upd _ _ _ _ = _
    rw [upd_ne _ _ (by omega)]
    exact (h.mR hi).2.2 h4 k hk
theorem BR.newNote (h : BR C R M W N b S) {i : Nat} (hi : i < M) {x : Int32} (hx : rg x (-800000) 800000) (h4 : S (14 + 10 * i + 4) = 1) : BR C R M W N (bst b 0 (nI M, upd (b.2 0) (i * 9 + 4) x)) (upd S (14 + 10 * i + 5) x) := by
  refine h.row hi _ (fun q hq => upd_ne _ _ (by omega)) (fun q hq => upd_ne _ _ (by omega)) ?_ ⟨?_, ?_, ?_⟩
  · have hm := h.mic hi
    unfold okMic at hm ⊢
    rw [upd_eq, upd_ne _ _ (by omega), upd_ne _ _ (by omega), upd_ne _ _ (by omega), upd_ne _ _ (by omega), upd_ne _ _ (by omega)]
    exact ⟨hm.1, hm.2.1, hm.2.2.1, hm.2.2.2.1, hm.2.2.2.2.1, hx⟩
  · intro k hk
    show upd _ _ _ _ = _
    rw [upd_ne _ _ (by omega), upd_ne _ _ (by omega)]
    exact (h.mR hi).1 k hk
  · intro _
    obtain ⟨g1, g2⟩ := (h.mR hi).2.1 h4
    refine ⟨?_, fun k hk => ?_⟩
    · show upd _ _ _ _ = _
      rw [upd_eq, upd_eq]
    · show upd _ _ _ _ = _
      rw [upd_ne _ _ (by omega), upd_ne _ _ (by omega)]
      exact g2 k hk
  · intro h5
    rw [upd_ne _ _ (by omega)] at h5
    exact absurd h4 h5
theorem bst_self {i : Nat} (h : BR C R M W N b S) : bst b 0 (nI M, b.2 0) = b := by
  unfold bst
  rw [← h.b4, show (4 + 0) = 4 from rfl, upd_self, updA_self]
theorem BR.noNote (h : BR C R M W N b S) {i : Nat} (hi : i < M) {x : Int32} (hx : rg x (-800000) 800000) (h4 : S (14 + 10 * i + 4) ≠ 1) : BR C R M W N b (upd S (14 + 10 * i + 5) x) := by
  have r := h.row (S' := upd S (14 + 10 * i + 5) x) hi (b.2 0) (fun q hq => rfl) (fun q hq => upd_ne _ _ (by omega)) ?_ ⟨?_, ?_, ?_⟩
  · rw [bst_self (i := i) h] at r
    exact r
  · have hm := h.mic hi
    unfold okMic at hm ⊢
    rw [upd_eq, upd_ne _ _ (by omega), upd_ne _ _ (by omega), upd_ne _ _ (by omega), upd_ne _ _ (by omega), upd_ne _ _ (by omega)]
    exact ⟨hm.1, hm.2.1, hm.2.2.1, hm.2.2.2.1, hm.2.2.2.2.1, hx⟩
  · intro k hk
    rw [upd_ne _ _ (by omega)]
    exact (h.mR hi).1 k hk
  · intro h5
    rw [upd_ne _ _ (by omega)] at h5
    exact absurd h5 h4
  · intro _ k hk
    exact (h.mR hi).2.2 h4 k hk
theorem ring1 (n t s : Int32) : n - (t + s) = n - t - s := by
  rw [Int32.sub_eq_add_neg, Int32.sub_eq_add_neg, Int32.sub_eq_add_neg, Int32.neg_add, Int32.sub_eq_add_neg, Int32.add_assoc]
theorem ring2 (n s : Int32) : n - (n - s) = s := by
  rw [Int32.sub_eq_add_neg, Int32.neg_sub, Int32.sub_eq_add_neg, Int32.add_comm s, ← Int32.add_assoc, Int32.add_right_neg, Int32.zero_add]
theorem l97_t {i : Nat} (hi : i < 8) {q : Int32 → Int32 → Int32 → Int32 → Int32 → MS → Int32 × MS} {Q : Int32 → Int32 → Int32 → Int32 → Int32 → MS → Prop} {x y time c old o : Int32} (h4 : m.2.2 0 (14 + 10 * i + 4) = 1) :
    pX12_calibrates_L97 q x y time c (nI i) old o m = q x y time (c + bz (decide (o ≠ old))) (nI (i + 1)) (msa m 0 (upd (upd (m.2.2 0) (14 + 10 * i + 3) o) (14 + 10 * i + 5) (m.2.2 0 (14 + 10 * i + 5) - o))) ∧ (Q x y time (c + bz (decide (o ≠ old))) (nI (i + 1)) (msa m 0 (upd (upd (m.2.2 0) (14 + 10 * i + 3) o) (14 + 10 * i + 5) (m.2.2 0 (14 + 10 * i + 5) - o))) → kX12_calibrates_L97 Q x y time c (nI i) old o m) := by
  have P := fun (m : MS) (k : Nat) (kk x : Int32) (e : kk = nI k) (hk : k < 10) => puts_eq (m := m) (i := i) (k := k) (kk := kk) (x := x) e hi hk
  have O := fun (m : MS) (k : Nat) (kk : Int32) (e : kk = nI k) (hk : k < 10) => of_eq (m := m) (i := i) (k := k) (kk := kk) e hi hk
  unfold pX12_calibrates_L97 kX12_calibrates_L97 pX12_calibrates_L137 kX12_calibrates_L137 pX12_calibrates_L154 kX12_calibrates_L154
  simp only [lt, (P _ 3 3 _ rfl (by omega)).1, (P _ 5 5 _ rfl (by omega)).1, (O _ 4 4 rfl (by omega)).1, (O _ 5 5 rfl (by omega)).1, msa_3, updA_eq, msa_msa, nI_1]
  rw [upd_ne (j := 14 + 10 * i + 4) _ _ (by omega), upd_ne (j := 14 + 10 * i + 5) (k := 14 + 10 * i + 3) _ _ (by omega), h4]
  simp only [if_true]
  by_cases e : o = old
  · simp only [if_pos e, show decide (o ≠ old) = false by simp [e]]
    exact ⟨trivial, fun h => ⟨(P _ 3 3 _ rfl (by omega)).2, (O _ 4 4 rfl (by omega)).2, (O _ 5 5 rfl (by omega)).2, (P _ 5 5 _ rfl (by omega)).2, h⟩⟩
  · simp only [if_neg e, show decide (o ≠ old) = true by simp [e]]
    exact ⟨trivial, fun h => ⟨(P _ 3 3 _ rfl (by omega)).2, (O _ 4 4 rfl (by omega)).2, (O _ 5 5 rfl (by omega)).2, (P _ 5 5 _ rfl (by omega)).2, h⟩⟩
theorem l97_f {i : Nat} (hi : i < 8) {q : Int32 → Int32 → Int32 → Int32 → Int32 → MS → Int32 × MS} {Q : Int32 → Int32 → Int32 → Int32 → Int32 → MS → Prop} {x y time c old o : Int32} (h4 : ¬ m.2.2 0 (14 + 10 * i + 4) = 1) :
    pX12_calibrates_L97 q x y time c (nI i) old o m = q x y time (c + bz (decide (o ≠ old))) (nI (i + 1)) (msa m 0 (upd (upd (m.2.2 0) (14 + 10 * i + 3) o) (14 + 10 * i + 5) 0)) ∧ (Q x y time (c + bz (decide (o ≠ old))) (nI (i + 1)) (msa m 0 (upd (upd (m.2.2 0) (14 + 10 * i + 3) o) (14 + 10 * i + 5) 0)) → kX12_calibrates_L97 Q x y time c (nI i) old o m) := by
  have P := fun (m : MS) (k : Nat) (kk x : Int32) (e : kk = nI k) (hk : k < 10) => puts_eq (m := m) (i := i) (k := k) (kk := kk) (x := x) e hi hk
  have O := fun (m : MS) (k : Nat) (kk : Int32) (e : kk = nI k) (hk : k < 10) => of_eq (m := m) (i := i) (k := k) (kk := kk) e hi hk
  unfold pX12_calibrates_L97 kX12_calibrates_L97 pX12_calibrates_L137 kX12_calibrates_L137 pX12_calibrates_L154 kX12_calibrates_L154
  simp only [lt, (P _ 3 3 _ rfl (by omega)).1, (P _ 5 5 _ rfl (by omega)).1, (O _ 4 4 rfl (by omega)).1, (O _ 5 5 rfl (by omega)).1, msa_3, updA_eq, msa_msa, nI_1]
  rw [upd_ne (j := 14 + 10 * i + 4) _ _ (by omega)]
  simp only [if_neg h4]
  by_cases e : o = old
  · simp only [if_pos e, show decide (o ≠ old) = false by simp [e]]
    exact ⟨trivial, fun h => ⟨(P _ 3 3 _ rfl (by omega)).2, (O _ 4 4 rfl (by omega)).2, (P _ 5 5 _ rfl (by omega)).2, h⟩⟩
  · simp only [if_neg e, show decide (o ≠ old) = true by simp [e]]
    exact ⟨trivial, fun h => ⟨(P _ 3 3 _ rfl (by omega)).2, (O _ 4 4 rfl (by omega)).2, (P _ 5 5 _ rfl (by omega)).2, h⟩⟩
theorem known_L {x y time : Int32} (hx : rg x (-1000) 3000) (hy : rg y (-1000) 3000) (ht : rg time 0 100000) : ∀ (n i : Nat), i ≤ M → M - i < n → ∀ (c : Nat) (b : BS) (m : MS) (t : TS), c ≤ i → BR C R M W N b (m.2.2 0) → ResC C R M W N m (pX6_hearKnownClick_L12 n x y time (nI c) (nI i) t b) (pX12_calibrates_L23 n x y time (nI c) (nI i) m) ∧ kX6_hearKnownClick_L12 n x y time (nI c) (nI i) t b ∧ kX12_calibrates_L23 n x y time (nI c) (nI i) m := by
  intro n
  induction n with
  | zero => intro i h1 h2; omega
  | succ n ih =>
    intro i h1 h2 c b m t hc h
    have hl := h.le
    show ResC C R M W N m (bX6_hearKnownClick_L12 (pX6_hearKnownClick_L12 n) _ _ _ _ _ _ _) (bX12_calibrates_L23 (pX12_calibrates_L23 n) _ _ _ _ _ _) ∧ kbX6_hearKnownClick_L12 (kX6_hearKnownClick_L12 n) _ _ _ _ _ _ _ ∧ kbX12_calibrates_L23 (kX12_calibrates_L23 n) _ _ _ _ _ _
    unfold bX6_hearKnownClick_L12 kbX6_hearKnownClick_L12 bX12_calibrates_L23 kbX12_calibrates_L23
    by_cases e : i = M
    · subst e
      rw [h.b4, h.eM]
      simp only [if_pos (nI_le (Nat.le_refl i) (show i < 2 ^ 31 by omega)), lt]
      rw [h.b2]
      exact ⟨⟨c, t, _, by omega, rfl, rfl, rfl, h.s5 _, ⟨rfl, rfl, rfl, rfl, rfl, rfl, rfl⟩⟩, trivial, trivial⟩
    · have hi : i < M := by omega
      have hi8 : i < 8 := by omega
      obtain ⟨p1, p2⟩ := at9m (k := 3) (kk := 3) h rfl hi (by omega)
      obtain ⟨q1, q2⟩ := put9 (k := 3) (kk := 3) (x := 0) (f := b.2 0) h rfl hi (by omega)
      obtain ⟨r1, r2⟩ := of_eq (m := m) (i := i) (k := 3) (kk := 3) rfl hi8 (by omega)
      obtain ⟨s1, s2⟩ := puts_eq (m := m) (i := i) (k := 3) (kk := 3) (x := 0) rfl hi8 (by omega)
      have h0 := h.off hi (x := 0) ⟨by decide, by decide⟩
      have h0' : BR C R M W N (bst b 0 (nI M, upd (b.2 0) (i * 9 + 3) 0)) ((msa m 0 (upd (m.2.2 0) (14 + 10 * i + 3) 0)).2.2 0) := h0
      obtain ⟨t1, e1, ⟨t2, b2, e2, hb2, hk2, hS2, hz⟩, k1, k2, k3⟩ := hear_eq h0' hi hx hy ht t
      obtain ⟨n1, n2⟩ := hasNoted_eq hb2 hi
      have hk3 : keeps m (pX12_notes (msa m 0 (upd (m.2.2 0) (14 + 10 * i + 3) 0)) x y time (nI i)) := keeps.trans ⟨rfl, rfl, rfl, rfl, rfl, rfl, rfl⟩ hk2
      rw [p1, r1]
      rw [h.b4] at p2 ⊢
      rw [h.eM, q1, s1]
      simp only [if_neg (nI_ge hi (show M < 2 ^ 31 by omega)), lt, e1, e2]
      have h00 : (msa m 0 (upd (m.2.2 0) (14 + 10 * i + 3) 0)).2.2 0 (14 + 10 * i + 3) = 0 := upd_eq _ _ _
      rw [h00] at hz
      obtain ⟨m', hm'⟩ : ∃ m', m' = pX12_notes (msa m 0 (upd (m.2.2 0) (14 + 10 * i + 3) 0)) x y time (nI i) := ⟨_, rfl⟩
      have o3 : m'.2.2 0 (14 + 10 * i + 3) = 0 := by rw [hm', hS2 _ (by omega) (by omega), h00]
      rw [← hm'] at hb2 hk3 hz n1 ⊢
      obtain ⟨u1, u2⟩ := of_eq (m := m') (i := i) (k := 4) (kk := 4) rfl hi8 (by omega)
      obtain ⟨v1, v2⟩ := of_eq (m := m') (i := i) (k := 5) (kk := 5) rfl hi8 (by omega)
      rw [n1, u1]
      unfold hasP
      by_cases h4 : m'.2.2 0 (14 + 10 * i + 4) = 1
      · simp only [h4, decide_true, if_true]
        obtain ⟨z, zr, ez⟩ := hz h4
        rw [Int32.sub_zero] at ez
        obtain ⟨w, w1, w2, w3, w4, w5⟩ := way_to hb2 hi (x := x) (y := y) ⟨by have := hx.1; omega, by have := hx.2; omega⟩ ⟨by have := hy.1; omega, by have := hy.2; omega⟩
        obtain ⟨T, T1, T2, T3, T4, T5⟩ := time_eq hb2 w1
        have eT := nI_toInt (n := T) (by omega)
        have t1' := ht.1; have t2' := ht.2; have z1 := zr.1; have z2 := zr.2
        have eb : b2.2 0 (i * 9 + 4) = z := ((hb2.mR hi).2.1 h4).1.trans ez
        obtain ⟨a1, a2⟩ := at9 (k := 4) (kk := 4) hb2 rfl hi (by omega)
        rw [hb2.b4] at a1 a2
        have eA : (z - time).toInt = z.toInt - time.toInt := Kit.i32_sub (by omega) (by omega)
        have eB : (z - time - nI T).toInt = z.toInt - time.toInt - T := by rw [Kit.i32_sub (by omega) (by omega), eA, eT]
        have eC : (time + nI T).toInt = time.toInt + T := by rw [Kit.i32_add (by omega) (by omega), eT]
        have hO := hb2.off hi (x := z - time - nI T) ⟨by omega, by omega⟩
        have hO4 : upd (m'.2.2 0) (14 + 10 * i + 3) (z - time - nI T) (14 + 10 * i + 4) = 1 := by rw [upd_ne _ _ (by omega)]; exact h4
        have hN : BR C R M W N (bst b2 0 (nI M, upd (upd (b2.2 0) (i * 9 + 3) (z - time - nI T)) (i * 9 + 4) (time + nI T))) (upd (upd (m'.2.2 0) (14 + 10 * i + 3) (z - time - nI T)) (14 + 10 * i + 5) (time + nI T)) := by
          have hN := hO.newNote hi (x := time + nI T) ⟨by omega, by omega⟩ hO4
          rw [bst_bst] at hN
          exact hN
        obtain ⟨x1, x2⟩ := put9 (k := 3) (kk := 3) (x := z - time - nI T) (f := b2.2 0) hb2 rfl hi (by omega)
        obtain ⟨y1, y2⟩ := put9 (k := 4) (kk := 4) (x := time + nI T) (f := upd (b2.2 0) (i * 9 + 3) (z - time - nI T)) hb2 rfl hi (by omega)
        obtain ⟨g1, g2⟩ := at9m (k := 3) (kk := 3) hN rfl hi (by omega)
        rw [show upd (upd (m'.2.2 0) (14 + 10 * i + 3) (z - time - nI T)) (14 + 10 * i + 5) (time + nI T) (14 + 10 * i + 3) = z - time - nI T by rw [upd_ne _ _ (by omega), upd_eq]] at g1
        obtain ⟨l1, l2⟩ := l97_t (m := m') (i := i) hi8 (q := pX12_calibrates_L23 n) (Q := kX12_calibrates_L23 n) (x := x) (y := y) (time := time) (c := nI c) (old := m.2.2 0 (14 + 10 * i + 3)) (o := z - time - nI T) h4
        rw [ez, show z - (z - time - nI T) = time + nI T by rw [← ring1, ring2]] at l1 l2
        rw [hb2.b4, w2, w3, T2, T3, v1, ez, a1, eb, ring1, x1, l1]
        unfold pX6_hearKnownClick_L117 kX6_hearKnownClick_L117 pX6_hearKnownClick_L133 kX6_hearKnownClick_L133
        simp only [bst_t0, bst_bst, y1, lt, nI_1]
        have hM' : ∀ f : Nat → Int32, ((bst b2 0 (nI M, f)).1 4, (bst b2 0 (nI M, f)).2 0) = (nI M, f) := fun f => rfl
        rw [hM'] at g1 g2
        rw [g1]
        have hmm : BR C R M W N (bst b2 0 (nI M, upd (upd (b2.2 0) (i * 9 + 3) (z - time - nI T)) (i * 9 + 4) (time + nI T))) ((msa m' 0 (upd (upd (m'.2.2 0) (14 + 10 * i + 3) (z - time - nI T)) (14 + 10 * i + 5) (time + nI T))).2.2 0) := hN
        have hkk : keeps m (msa m' 0 (upd (upd (m'.2.2 0) (14 + 10 * i + 3) (z - time - nI T)) (14 + 10 * i + 5) (time + nI T))) := hk3.trans ⟨rfl, rfl, rfl, rfl, rfl, rfl, rfl⟩
        by_cases eo : z - time - nI T = m.2.2 0 (14 + 10 * i + 3)
        · rw [show decide (z - time - nI T ≠ m.2.2 0 (14 + 10 * i + 3)) = false by simp [eo]] at l2 ⊢
          rw [show nI c + bz false = nI c from Int32.add_zero _] at l2 ⊢
          simp only [if_pos eo]
          have r := ih (i + 1) (by omega) (by omega) c _ _ t2 (by omega) hmm
          exact ⟨r.1.of hkk, ⟨p2, q2, k1, k2, n2, w4, T4, a2, x2, y2, g2, r.2.1⟩, r2, s2, k3, u2, v2, w5, T5, l2 r.2.2⟩
        · rw [show decide (z - time - nI T ≠ m.2.2 0 (14 + 10 * i + 3)) = true by simp [eo]] at l2 ⊢
          rw [show nI c + bz true = nI (c + 1) from nI_1 c] at l2 ⊢
          simp only [if_neg eo]
          have r := ih (i + 1) (by omega) (by omega) (c + 1) _ _ t2 (by omega) hmm
          exact ⟨r.1.of hkk, ⟨p2, q2, k1, k2, n2, w4, T4, a2, x2, y2, g2, r.2.1⟩, r2, s2, k3, u2, v2, w5, T5, l2 r.2.2⟩
      · simp only [h4, decide_false, Bool.false_eq_true, if_false]
        obtain ⟨g1, g2⟩ := at9m (k := 3) (kk := 3) hb2 rfl hi (by omega)
        rw [o3] at g1
        obtain ⟨l1, l2⟩ := l97_f (m := m') (i := i) hi8 (q := pX12_calibrates_L23 n) (Q := kX12_calibrates_L23 n) (x := x) (y := y) (time := time) (c := nI c) (old := m.2.2 0 (14 + 10 * i + 3)) (o := 0) h4
        rw [show upd (m'.2.2 0) (14 + 10 * i + 3) 0 = m'.2.2 0 from fa_upd_same o3] at l1 l2
        rw [l1]
        unfold pX6_hearKnownClick_L117 kX6_hearKnownClick_L117 pX6_hearKnownClick_L133 kX6_hearKnownClick_L133
        simp only [g1, lt, nI_1]
        have hmm : BR C R M W N b2 ((msa m' 0 (upd (m'.2.2 0) (14 + 10 * i + 5) 0)).2.2 0) := hb2.noNote hi ⟨by decide, by decide⟩ h4
        have hkk : keeps m (msa m' 0 (upd (m'.2.2 0) (14 + 10 * i + 5) 0)) := hk3.trans ⟨rfl, rfl, rfl, rfl, rfl, rfl, rfl⟩
        by_cases eo : 0 = m.2.2 0 (14 + 10 * i + 3)
        · rw [show decide ((0 : Int32) ≠ m.2.2 0 (14 + 10 * i + 3)) = false by simp [← eo]] at l2 ⊢
          rw [show nI c + bz false = nI c from Int32.add_zero _] at l2 ⊢
          simp only [if_pos eo]
          have r := ih (i + 1) (by omega) (by omega) c _ _ t2 (by omega) hmm
          exact ⟨r.1.of hkk, ⟨p2, q2, k1, k2, n2, g2, r.2.1⟩, r2, s2, k3, u2, l2 r.2.2⟩
        · rw [show decide ((0 : Int32) ≠ m.2.2 0 (14 + 10 * i + 3)) = true by simp [eo]] at l2 ⊢
          rw [show nI c + bz true = nI (c + 1) from nI_1 c] at l2 ⊢
          simp only [if_neg eo]
          have r := ih (i + 1) (by omega) (by omega) (c + 1) _ _ t2 (by omega) hmm
          exact ⟨r.1.of hkk, ⟨p2, q2, k1, k2, n2, g2, r.2.1⟩, r2, s2, k3, u2, l2 r.2.2⟩
end KNOWN
