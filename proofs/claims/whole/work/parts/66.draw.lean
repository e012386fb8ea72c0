/-! PURE: numbers drawn; a bench that changes -/
section DRAW
variable {C R M W N : Nat} {b b' : BS} {S S' : Nat → Int32} {m : MS}
theorem okMic_same {i : Nat} (h : okMic S i) (e : ∀ k, k < 6 → S' (14 + 10 * i + k) = S (14 + 10 * i + k)) : okMic S' i := by
  unfold okMic
  rw [e 0 (by omega), e 1 (by omega), e 2 (by omega), e 3 (by omega), e 4 (by omega), e 5 (by omega)]
  exact h
theorem okWall_same {i j : Nat} (h : okWall S i) (e : ∀ k, k < 3 → S' (94 + 3 * j + k) = S (94 + 3 * i + k)) : okWall S' j := by
  unfold okWall
  rw [e 0 (by omega), e 1 (by omega), e 2 (by omega)]
  exact h
theorem okScr_same {i j : Nat} (h : okScr S i) (e : ∀ k, k < 4 → S' (106 + 4 * j + k) = S (106 + 4 * i + k)) : okScr S' j := by
  unfold okScr
  rw [e 0 (by omega), e 1 (by omega), e 2 (by omega), e 3 (by omega)]
  exact h
theorem micR_same {i j : Nat} (h : micR b S i) (eb : ∀ k, k < 9 → b'.2 0 (j * 9 + k) = b.2 0 (i * 9 + k)) (e : ∀ k, k < 10 → S' (14 + 10 * j + k) = S (14 + 10 * i + k)) : micR b' S' j := by
  obtain ⟨h1, h2, h3⟩ := h
  refine ⟨fun k hk => ?_, fun h4 => ?_, fun h4 k hk => ?_⟩
  · rw [eb k (by omega), e k (by omega)]
    exact h1 k hk
  · rw [e 4 (by omega)] at h4
    obtain ⟨g1, g2⟩ := h2 h4
    refine ⟨?_, fun k hk => ?_⟩
    · rw [eb 4 (by omega), e 5 (by omega)]
      exact g1
    · rw [eb (5 + k) (by omega), e (6 + k) (by omega)]
      exact g2 k hk
  · rw [e 4 (by omega)] at h4
    rw [eb (4 + k) (by omega)]
    exact h3 h4 k hk
theorem okMic_to {i j : Nat} (h : okMic S i) (e : ∀ k, k < 6 → S' (14 + 10 * j + k) = S (14 + 10 * i + k)) : okMic S' j := by
  unfold okMic
  rw [e 0 (by omega), e 1 (by omega), e 2 (by omega), e 3 (by omega), e 4 (by omega), e 5 (by omega)]
  exact h
theorem BR.chg (h : BR C R M W N b S) (e0 : ∀ k, k < 5 → S' k = S k) (es : okSet S') (em : ∀ i, i < M → okMic S' i) (ew : ∀ q, 94 ≤ q → S' q = S q) (c0 : b'.1 0 = b.1 0) (c1 : b'.1 1 = b.1 1) (c4 : b'.1 4 = b.1 4) (c5 : b'.1 5 = b.1 5) (c6 : b'.1 6 = b.1 6) (c7 : b'.1 7 = b.1 7) (c2 : b'.1 2 = S' 5) (c3 : b'.1 3 = S' 6) (cm : ∀ i, i < M → micR b' S' i) (d1 : b'.2 1 = b.2 1) (d2 : b'.2 2 = b.2 2) (cs : ∀ k, k < 7 → b'.2 3 (k * 1 + 0) = S' (7 + k)) : BR C R M W N b' S' := by
  refine ⟨⟨(e0 0 (by omega)).trans h.eC, (e0 1 (by omega)).trans h.eR, (e0 2 (by omega)).trans h.eM, (e0 3 (by omega)).trans h.eW, (e0 4 (by omega)).trans h.eN, h.le.1, h.le.2.1, h.le.2.2, em, fun i hi => okWall_same (h.wall hi) (fun k hk => ew _ (by omega)), fun i hi => okScr_same (h.scr hi) (fun k hk => ew _ (by omega)), es⟩, ?_⟩
  refine ⟨?_, ?_, c2, c3, ?_, ?_, ?_, ?_, cm, ?_, ?_, cs⟩
  · rw [c0, e0 0 (by omega), h.b0, h.eC]
  · rw [c1, e0 1 (by omega), h.b1, h.eR]
  · rw [c4, e0 2 (by omega), h.b4, h.eM]
  · rw [c5, e0 3 (by omega), h.b5, h.eW]
  · rw [c6, e0 4 (by omega), h.b6, h.eN]
  · rw [c7, h.b7]; rfl
  · intro i hi k hk
    rw [d1, ew _ (by omega)]
    exact h.wallR hi hk
  · intro i hi k hk
    rw [d2, ew _ (by omega)]
    exact h.scrR hi hk
theorem BR.s6 (h : BR C R M W N b S) {x : Int32} (hx : 0 ≤ x.toInt) : BR C R M W N (bsi b 3 x) (upd S 6 x) := by
  have hl := h.le
  have hs := h.set
  refine h.chg (fun k hk => upd_ne _ _ (by omega)) ?_ (fun i hi => okMic_same (h.mic hi) (fun k hk => upd_ne _ _ (by omega))) (fun q hq => upd_ne _ _ (by omega)) rfl rfl rfl rfl rfl rfl ?_ rfl (fun i hi => micR_same (i := i) (h.mR hi) (fun k hk => rfl) (fun k hk => upd_ne _ _ (by omega))) rfl rfl ?_
  · unfold okSet at hs ⊢
    rw [upd_eq, upd_ne _ _ (by omega), upd_ne _ _ (by omega), upd_ne _ _ (by omega), upd_ne _ _ (by omega), upd_ne _ _ (by omega), upd_ne _ _ (by omega), upd_ne _ _ (by omega)]
    exact ⟨hx, hs.2⟩
  · rw [upd_ne _ _ (by omega)]
    exact h.b2
  · intro k hk
    rw [upd_ne _ _ (by omega)]
    exact h.setR hk
theorem lN_and (a c : Nat) : lN a &&& lN c = lN (a &&& c) := by
  apply Int64.toBitVec_inj.1
  show BitVec.ofNat 64 a &&& BitVec.ofNat 64 c = BitVec.ofNat 64 (a &&& c)
  apply BitVec.eq_of_getLsbD_eq
  intro i hi
  simp [hi]
theorem draw_eq (h : BR C R M W N b (m.2.2 0)) {A : Nat} (hA : 1 ≤ A) (hA2 : A ≤ 1000) : ∃ v s : Nat, v < A ∧ s < 2 ^ 31 ∧ pX2_draw b (nI A) = (nI v, bsi b 3 (nI s)) ∧ pX12_drawn m (nI A) = (nI v, msa m 0 (upd (m.2.2 0) 6 (nI s))) ∧ kX2_draw b (nI A) ∧ kX12_drawn m (nI A) := by
  have h6 := h.set.1
  have e6 := pu_nI h6
  have hlt : (m.2.2 0 6).toInt < 2 ^ 31 := Int32.toInt_lt _
  obtain ⟨q, hq, eq⟩ : ∃ q : Nat, q < 2 ^ 31 ∧ m.2.2 0 6 = nI q := ⟨_, by omega, e6⟩
  have hX : (1103515245 * q + 12345) % 2 ^ 31 < 2 ^ 31 := Nat.mod_lt _ (by omega)
  obtain ⟨s, hs⟩ : ∃ s, s = (1103515245 * q + 12345) % 2 ^ 31 := ⟨_, rfl⟩
  rw [← hs] at hX
  have eL : (1103515245 * (nI q).toInt64 + 12345 : Int64) = lN (1103515245 * q + 12345) := by
    rw [nI_l hq, show (1103515245 : Int64) = lN 1103515245 from rfl, show (12345 : Int64) = lN 12345 from rfl, lN_mul, lN_add]
  have e1 : (lN (1103515245 * q + 12345) - lN (1103515245 * q + 12345) / 2147483648 * 2147483648).toInt32 = nI s := by
    rw [show (2147483648 : Int64) = lN (2 ^ 31) from rfl, pk_lRem (by omega) (by omega) (by omega), lN_i, hs]
  have e2 : (lN (1103515245 * q + 12345) &&& 2147483647).toInt32 = nI s := by
    rw [show (2147483647 : Int64) = lN (2 ^ 31 - 1) from rfl, lN_and, Nat.and_two_pow_sub_one_eq_mod, lN_i, hs]
  have hd : s / 65536 < 2 ^ 31 := by omega
  have e3 : nI s / 65536 = nI (s / 65536) := pk_div (d := 65536) hX (by omega) (by omega)
  have e4 : nI s >>> (16 &&& 31) = nI (s / 65536) := by
    apply Int32.toInt_inj.mp
    rw [Kit.i32_shr (k := 16) (nI s) (16 &&& 31) (by decide +kernel), nI_toInt hX, nI_toInt hd]
    omega
  have e5 : nI (s / 65536) - nI (s / 65536) / nI A * nI A = nI (s / 65536 % A) := pk_rem hd (by omega) (by omega)
  refine ⟨s / 65536 % A, s, Nat.mod_lt _ (by omega), hX, ?_, ?_, ?_, ?_⟩
  · unfold pX2_draw
    simp only [lt]
    rw [h.b3, eq, eL, e1, if_pos (show (1 : Int32) ≤ nI A from nI_le (a := 1) hA (by omega))]
    show (nI s / 65536 - nI s / 65536 / nI A * nI A, _) = _
    rw [e3, e5]
  · unfold pX12_drawn
    simp only [lt]
    rw [eq, eL, e2]
    show (nI s >>> (16 &&& 31) - nI s >>> (16 &&& 31) / nI A * nI A, _) = _
    rw [e4, e5]
  · unfold kX2_draw
    simp only [lt]
    rw [if_pos (show (1 : Int32) ≤ nI A from nI_le (a := 1) hA (by omega))]
    exact nI_ne0 (by omega) (by omega)
  · unfold kX12_drawn
    simp only [lt]
    exact nI_ne0 (by omega) (by omega)
end DRAW
