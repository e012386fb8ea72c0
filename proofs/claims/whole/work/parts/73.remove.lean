/-! PURE: things removed -/
section REMOVE
variable {C R M W N : Nat} {b b' : BS} {S S' : Nat → Int32} {m : MS}
theorem shift_L {w E kd : Nat} (hkd : kd ≤ 2) (hw : 0 < w) (hE : E + w ≤ 122) : ∀ (n q : Nat), q ≤ E → E - q < n → ∀ m : MS, ∃ F, pX12_remove_L85 n (nI kd) (nI w) (nI E) (nI q) m = pX12_ends (msa m 0 F) (F (2 + kd)) ∧ (kX12_ends (msa m 0 F) (F (2 + kd)) → kX12_remove_L85 n (nI kd) (nI w) (nI E) (nI q) m) ∧ ∀ p, F p = if q ≤ p ∧ p < E then m.2.2 0 (p + w) else m.2.2 0 p := by
  intro n
  induction n with
  | zero => intro q h1 h2; omega
  | succ n ih =>
    intro q h1 h2 m
    show ∃ F, bX12_remove_L85 (pX12_remove_L85 n) _ _ _ _ _ = _ ∧ (_ → kbX12_remove_L85 (kX12_remove_L85 n) _ _ _ _ _) ∧ _
    unfold bX12_remove_L85 kbX12_remove_L85
    have e2 : (2 : Int32) + nI kd = nI (2 + kd) := nI_add 2 kd
    by_cases e : q = E
    · subst e
      simp only [if_pos (nI_le (Nat.le_refl q) (show q < 2 ^ 31 by omega)), e2, nI_clamp (show 2 + kd < 2 ^ 31 by omega)]
      refine ⟨m.2.2 0, ?_, ?_, fun p => by rw [if_neg (by omega)]⟩
      · rw [show msa m 0 (m.2.2 0) = m by unfold msa; rw [updA_self]]
        rfl
      · rw [show msa m 0 (m.2.2 0) = m by unfold msa; rw [updA_self]]
        exact fun h => ⟨vp_in_n (by omega) (by omega), h⟩
    · simp only [if_neg (nI_ge (show q < E by omega) (show E < 2 ^ 31 by omega)), nI_add q w, nI_clamp (show q < 2 ^ 31 by omega), nI_clamp (show q + w < 2 ^ 31 by omega), lt, nI_1]
      obtain ⟨F, f1, f2, f3⟩ := ih (q + 1) (by omega) (by omega) (msa m 0 (upd (m.2.2 0) q (m.2.2 0 (q + w))))
      rw [msa_msa] at f1 f2
      refine ⟨F, f1, fun h => ⟨vp_in_n (by omega) (by omega), vp_in_n (by omega) (by omega), f2 h⟩, fun p => ?_⟩
      rw [f3 p, msa_3, updA_eq]
      by_cases c : p = q
      · rw [c, if_neg (by omega), upd_eq, if_pos (by omega)]
      · by_cases d : q ≤ p ∧ p < E
        · rw [if_pos (by omega), if_pos d, upd_ne _ _ (by omega)]
        · rw [if_neg (by omega), if_neg d, upd_ne _ _ c]
theorem BR.rem0 (h : BR C R M W N b S) {i : Nat} (hi : i < M) {F : Nat → Int32} (e2 : F 2 = nI (M - 1)) (e : ∀ q, q ≠ 2 → q < 14 + 10 * i ∨ 94 ≤ q → F q = S q) (e' : ∀ q, 14 + 10 * i ≤ q → q < 14 + 10 * (M - 1) → F q = S (q + 10)) : BR C R (M - 1) W N (bst b 0 (nI (M - 1), va_cpy (b.2 0) (b.2 0) ((i + 1) * 9) (i * 9) ((M - i - 1) * 9))) F := by
  have hl := h.le
  have hs := h.set
  refine ⟨⟨(e 0 (by omega) (by omega)).trans h.eC, (e 1 (by omega) (by omega)).trans h.eR, e2, (e 3 (by omega) (by omega)).trans h.eW, (e 4 (by omega) (by omega)).trans h.eN, hl.1, hl.2.1, ⟨by omega, hl.2.2.2⟩, fun j hj => ?_, fun j hj => okWall_same (h.wall hj) (fun k hk => e _ (by omega) (by omega)), fun j hj => okScr_same (h.scr hj) (fun k hk => e _ (by omega) (by omega)), ?_⟩, ?_⟩
  · by_cases c : j < i
    · exact okMic_same (h.mic (show j < M by omega)) (fun k hk => e _ (by omega) (by omega))
    · refine okMic_to (i := j + 1) (h.mic (show j + 1 < M by omega)) (fun k hk => ?_)
      rw [e' _ (by omega) (by omega)]
      congr 1
      omega
  · unfold okSet at hs ⊢
    rw [e 6 (by omega) (by omega), e 7 (by omega) (by omega), e 8 (by omega) (by omega), e 9 (by omega) (by omega), e 10 (by omega) (by omega), e 11 (by omega) (by omega), e 12 (by omega) (by omega), e 13 (by omega) (by omega)]
    exact hs
  · unfold relB
    rw [e2, e 0 (by omega) (by omega), e 1 (by omega) (by omega), e 3 (by omega) (by omega), e 4 (by omega) (by omega), e 5 (by omega) (by omega), e 6 (by omega) (by omega)]
    refine ⟨h.b0.trans h.eC.symm, h.b1.trans h.eR.symm, h.b2, h.b3, rfl, h.b5.trans h.eW.symm, h.b6.trans h.eN.symm, h.b7, fun j hj => ?_, fun j hj k hk => ?_, fun j hj k hk => ?_, fun k hk => ?_⟩
    · by_cases c : j < i
      · refine micR_same (i := j) (h.mR (show j < M by omega)) (fun k hk => ?_) (fun k hk => e _ (by omega) (by omega))
        show va_cpy _ _ _ _ _ _ = _
        rw [pk_cpy_out (by omega)]
      · refine micR_same (i := j + 1) (h.mR (show j + 1 < M by omega)) (fun k hk => ?_) (fun k hk => ?_)
        · show va_cpy _ _ _ _ _ _ = _
          rw [pk_cpy_in (by omega) (by omega), show (i + 1) * 9 + (j * 9 + k - i * 9) = (j + 1) * 9 + k by omega]
        · rw [e' _ (by omega) (by omega)]
          congr 1
          omega
    · rw [e _ (by omega) (by omega)]; exact h.wallR hj hk
    · rw [e _ (by omega) (by omega)]; exact h.scrR hj hk
    · rw [e _ (by omega) (by omega)]; exact h.setR hk
theorem BR.rem1 (h : BR C R M W N b S) {i : Nat} (hi : i < W) {F : Nat → Int32} (e2 : F 3 = nI (W - 1)) (e : ∀ q, q ≠ 3 → q < 94 + 3 * i ∨ 106 ≤ q → F q = S q) (e' : ∀ q, 94 + 3 * i ≤ q → q < 94 + 3 * (W - 1) → F q = S (q + 3)) : BR C R M (W - 1) N (bst b 1 (nI (W - 1), va_cpy (b.2 1) (b.2 1) ((i + 1) * 3) (i * 3) ((W - i - 1) * 3))) F := by
  have hl := h.le
  refine h.parts (fun q q1 q2 q3 => e q q2 (by omega)) e2 ((e 4 (by omega) (by omega)).trans h.eN) (by omega) (by omega) (fun j hj => ?_) (fun j hj => okScr_same (h.scr hj) (fun k hk => e _ (by omega) (by omega))) rfl rfl rfl rfl rfl rfl rfl h.b6 rfl rfl (fun j hj k hk => ?_) (fun j hj k hk => ?_)
  · by_cases c : j < i
    · exact okWall_same (h.wall (show j < W by omega)) (fun k hk => e _ (by omega) (by omega))
    · refine okWall_same (i := j + 1) (h.wall (show j + 1 < W by omega)) (fun k hk => ?_)
      rw [e' _ (by omega) (by omega)]
      congr 1
      omega
  · show va_cpy _ _ _ _ _ _ = _
    by_cases c : j < i
    · rw [pk_cpy_out (by omega), e _ (by omega) (by omega)]
      exact h.wallR (by omega) hk
    · have r := h.wallR (i := j + 1) (k := k) (by omega) hk
      rw [pk_cpy_in (by omega) (by omega), e' _ (by omega) (by omega), show (i + 1) * 3 + (j * 3 + k - i * 3) = (j + 1) * 3 + k by omega, show 94 + 3 * j + k + 3 = 94 + 3 * (j + 1) + k by omega]
      exact r
  · show b.2 2 _ = _
    rw [e _ (by omega) (by omega)]; exact h.scrR hj hk
theorem BR.rem2 (h : BR C R M W N b S) {i : Nat} (hi : i < N) {F : Nat → Int32} (e2 : F 4 = nI (N - 1)) (e : ∀ q, q ≠ 4 → q < 106 + 4 * i ∨ 122 ≤ q → F q = S q) (e' : ∀ q, 106 + 4 * i ≤ q → q < 106 + 4 * (N - 1) → F q = S (q + 4)) : BR C R M W (N - 1) (bst b 2 (nI (N - 1), va_cpy (b.2 2) (b.2 2) ((i + 1) * 4) (i * 4) ((N - i - 1) * 4))) F := by
  have hl := h.le
  refine h.parts (fun q q1 q2 q3 => e q q3 (by omega)) ((e 3 (by omega) (by omega)).trans h.eW) e2 (by omega) (by omega) (fun j hj => okWall_same (h.wall hj) (fun k hk => e _ (by omega) (by omega))) (fun j hj => ?_) rfl rfl rfl rfl rfl rfl h.b5 rfl rfl rfl (fun j hj k hk => ?_) (fun j hj k hk => ?_)
  · by_cases c : j < i
    · exact okScr_same (h.scr (show j < N by omega)) (fun k hk => e _ (by omega) (by omega))
    · refine okScr_same (i := j + 1) (h.scr (show j + 1 < N by omega)) (fun k hk => ?_)
      rw [e' _ (by omega) (by omega)]
      congr 1
      omega
  · show b.2 1 _ = _
    rw [e _ (by omega) (by omega)]; exact h.wallR hj hk
  · show va_cpy _ _ _ _ _ _ = _
    by_cases c : j < i
    · rw [pk_cpy_out (by omega), e _ (by omega) (by omega)]
      exact h.scrR (by omega) hk
    · have r := h.scrR (i := j + 1) (k := k) (by omega) hk
      rw [pk_cpy_in (by omega) (by omega), e' _ (by omega) (by omega), show (i + 1) * 4 + (j * 4 + k - i * 4) = (j + 1) * 4 + k by omega, show 106 + 4 * j + k + 4 = 106 + 4 * (j + 1) + k by omega]
      exact r
/-- the reference's removal, of a kind that is there -/
theorem rem_in {kd n w st : Nat} {idx : Int32} (hkd : kd ≤ 2) (hn : m.2.2 0 (2 + kd) = nI n) (hn8 : n ≤ 8) (hw : pX12_wide (nI kd) = nI w) (hst : pX12_startOf (nI kd) = nI st) (hw0 : 0 < w) (hE : st + w * n ≤ 122) (hst14 : 14 ≤ st) :
    (¬ (0 ≤ idx.toInt ∧ idx.toInt < n) ∧ pX12_remove m (nI kd) idx = (0, msi m 3 2) ∧ kX12_remove m (nI kd) idx) ∨ ∃ (i : Nat) (A F : Nat → Int32), i < n ∧ idx = nI i ∧ pX12_remove m (nI kd) idx = pX12_ends (msa (msa m 2 A) 0 F) (nI (n - 1)) ∧ (kX12_ends (msa (msa m 2 A) 0 F) (nI (n - 1)) → kX12_remove m (nI kd) idx) ∧ (∀ q, q < 122 → A q = m.2.2 0 q) ∧ F (2 + kd) = nI (n - 1) ∧ (∀ q, q ≠ 2 + kd → q < st + w * i ∨ st + w * (n - 1) ≤ q → F q = m.2.2 0 q) ∧ (∀ q, st + w * i ≤ q → q < st + w * (n - 1) → F q = m.2.2 0 (q + w)) := by
  have e2 : (2 : Int32) + nI kd = nI (2 + kd) := nI_add 2 kd
  have V : vp_in (nI (2 + kd)) 122 := vp_in_n (by omega) (by omega)
  have hin : pX12_in (nI kd) 0 2 = true := by
    rw [in_iff]
    unfold rg
    rw [nI_toInt (by omega)]
    exact ⟨show (0 : Int) ≤ kd by omega, show (kd : Int) ≤ 2 by omega⟩
  have z0 : ((0 : Int32)).toInt = 0 := rfl
  have en := nI_toInt (n := n) (by omega)
  unfold pX12_remove kX12_remove pX12_remove_L31 pX12_fails
  rw [if_pos hin, if_pos hin, e2, nI_clamp (show 2 + kd < 2 ^ 31 by omega), hn]
  by_cases c0 : idx < 0
  · rw [fa_lt, z0] at c0
    refine Or.inl ⟨by omega, ?_, ?_⟩
    · rw [if_pos (by rw [fa_lt, z0]; exact c0)]; rfl
    · rw [if_pos (by rw [fa_lt, z0]; exact c0)]; trivial
  · simp only [if_neg c0]
    rw [fa_lt, z0] at c0
    by_cases c1 : idx < nI n
    · simp only [if_pos c1]
      rw [fa_lt, en] at c1
      obtain ⟨i, hi31, hi⟩ : ∃ i : Nat, i < 2 ^ 31 ∧ idx = nI i := ⟨idx.toInt.toNat, by have := idx.toInt_lt; omega, pu_nI (by omega)⟩
      subst hi
      have hiI : i < n := by
        rw [nI_toInt hi31] at c1
        omega
      obtain ⟨A, a1, a2, a3⟩ := hold_eq m
      have wn : w * (n - 1) + w = w * n := by
        obtain ⟨p, rfl⟩ : ∃ p, n = p + 1 := ⟨n - 1, by omega⟩
        rw [Nat.mul_succ]; rfl
      have wi : w * i ≤ w * (n - 1) := Nat.mul_le_mul_left w (by omega)
      obtain ⟨F, f1, f2, f3⟩ := shift_L (w := w) (E := st + w * (n - 1)) hkd hw0 (by omega) fu (st + w * i) (by omega) (by have := fu_ge; omega) (msa (msa m 2 A) 0 (upd (m.2.2 0) (2 + kd) (nI (n - 1))))
      have f3 : ∀ p, F p = if st + w * i ≤ p ∧ p < st + w * (n - 1) then upd (m.2.2 0) (2 + kd) (nI (n - 1)) (p + w) else upd (m.2.2 0) (2 + kd) (nI (n - 1)) p := f3
      rw [msa_msa] at f1 f2
      have FK : F (2 + kd) = nI (n - 1) := by rw [f3, if_neg (by omega), upd_eq]
      rw [FK] at f1 f2
      have en1 : nI n - 1 = nI (n - 1) := by
        obtain ⟨p, rfl⟩ : ∃ p, n = p + 1 := ⟨n - 1, by omega⟩
        exact nI_pred p
      have hS : (msa m 2 A).2.2 0 = m.2.2 0 := rfl
      simp only [a1, lt, hS, hn, en1, hw, hst, msa_3, updA_eq, upd_eq, pk_mul, nI_add]
      refine Or.inr ⟨i, A, F, hiI, rfl, f1, fun h => ⟨V, a2, V, V, V, f2 h⟩, a3, FK, fun q q1 q2 => ?_, fun q q1 q2 => ?_⟩
      · rw [f3, if_neg (by omega), upd_ne _ _ q1]
      · rw [f3, if_pos ⟨q1, q2⟩, upd_ne _ _ (by omega)]
    · simp only [if_neg c1]
      rw [fa_lt, en] at c1
      exact Or.inl ⟨by omega, rfl, V, trivial⟩
end REMOVE
