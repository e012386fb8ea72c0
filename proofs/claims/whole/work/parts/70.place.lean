/-! PURE: a new field, things placed, settings -/
section PLACE
variable {C R M W N : Nat} {b b' : BS} {S S' : Nat → Int32} {m : MS}
def BRx (b : BS) (S : Nat → Int32) : Prop := ∃ C R M W N, BR C R M W N b S
def actR (m0 : MS) (ans : Int32) (b' : BS) (w : Int32 × MS) : Prop := w.1 = 0 ∧ w.2.1 5 = ans ∧ keeps m0 w.2 ∧ BRx b' (w.2.2.2 0)
def stepR (m : MS) (ρ : Int32) (u : Int32 × BS) (ku : Prop) (w : Int32 × MS) (kw : Prop) : Prop := kw ∧ ((ρ = 2 ∨ ρ = 3) ∧ w = (ρ, m) ∨ ρ = 0 ∧ ku ∧ actR m u.1 u.2 w)
theorem in_iff (x a z : Int32) : pX12_in x a z = true ↔ rg x a.toInt z.toInt := by
  unfold pX12_in rg
  by_cases h : x < a
  · rw [if_pos h]
    rw [fa_lt] at h
    simp only [Bool.false_eq_true, false_iff]
    omega
  · rw [if_neg h]
    rw [fa_lt] at h
    by_cases g : z < x
    · rw [if_pos g]
      rw [fa_lt] at g
      simp only [Bool.false_eq_true, false_iff]
      omega
    · rw [if_neg g]
      rw [fa_lt] at g
      simp only [true_iff]
      omega
theorem in_eq (x a z : Int32) : pX11_isBetween x a z = pX12_in x a z := rfl
theorem zero2_L : ∀ (n k : Nat), k ≤ 4 → 4 - k < n → ∀ m : MS, ∃ F, pX12_begins_L70 n (nI k) m = (0, msa m 0 F) ∧ kX12_begins_L70 n (nI k) m ∧ ∀ q, F q = if 2 + k ≤ q ∧ q < 6 then 0 else m.2.2 0 q := by
  intro n
  induction n with
  | zero => intro k h1 h2; omega
  | succ n ih =>
    intro k h1 h2 m
    show ∃ F, bX12_begins_L70 (pX12_begins_L70 n) _ _ = _ ∧ kbX12_begins_L70 (kX12_begins_L70 n) _ _ ∧ _
    unfold bX12_begins_L70 kbX12_begins_L70
    by_cases e : k = 4
    · subst e
      simp only [if_pos (show (4 : Int32) ≤ nI 4 from by decide)]
      exact ⟨m.2.2 0, by unfold msa; rw [updA_self], trivial, fun q => by rw [if_neg (by omega)]⟩
    · simp only [if_neg (show ¬ (4 : Int32) ≤ nI k from nI_ge (b := 4) (by omega) (by omega)), show (2 : Int32) + nI k = nI (2 + k) from nI_add 2 k, nI_clamp (show 2 + k < 2 ^ 31 by omega), lt, nI_1]
      obtain ⟨F, f1, f2, f3⟩ := ih (k + 1) (by omega) (by omega) (msa m 0 (upd (m.2.2 0) (2 + k) 0))
      rw [msa_msa] at f1
      refine ⟨F, f1, ⟨vp_in_n (by omega) (by omega), f2⟩, fun q => ?_⟩
      rw [f3 q, msa_3, updA_eq]
      unfold upd
      by_cases c : q = 2 + k
      · rw [if_pos c, ite_self, if_pos (by omega)]
      · rw [if_neg c]
        by_cases d : 2 + k ≤ q ∧ q < 6
        · rw [if_pos d, if_pos (by omega)]
        · rw [if_neg d, if_neg (by omega)]
theorem zero1_L (a z : Int32) : ∀ (n k : Nat), 14 ≤ k → k ≤ 122 → 122 - k < n → ∀ m : MS, ∃ F, pX12_begins_L35 n a z (nI k) m = (0, msa m 0 F) ∧ kX12_begins_L35 n a z (nI k) m ∧ F 0 = a ∧ F 1 = z ∧ (∀ q, 2 ≤ q → q < 6 → F q = 0) ∧ (∀ q, 6 ≤ q → q < 14 → F q = m.2.2 0 q) := by
  intro n
  induction n with
  | zero => intro k h1 h2; omega
  | succ n ih =>
    intro k h0 h1 h2 m
    show ∃ F, bX12_begins_L35 (pX12_begins_L35 n) _ _ _ _ = _ ∧ kbX12_begins_L35 (kX12_begins_L35 n) _ _ _ _ ∧ _
    unfold bX12_begins_L35 kbX12_begins_L35
    by_cases e : k = 122
    · subst e
      simp only [if_pos (show (122 : Int32) ≤ nI 122 from by decide), lt]
      obtain ⟨F, f1, f2, f3⟩ := zero2_L fu 0 (by omega) (by have := fu_ge; omega) (msa (msa m 0 (upd (m.2.2 0) 0 a)) 0 (upd ((msa m 0 (upd (m.2.2 0) 0 a)).2.2 0) 1 z))
      rw [msa_msa, msa_msa] at f1
      rw [msa_msa] at f2
      simp only [msa_3, updA_eq, msa_msa] at f1 f2 f3 ⊢
      refine ⟨F, f1, f2, ?_, ?_, fun q q1 q2 => ?_, fun q q1 q2 => ?_⟩
      · rw [f3, if_neg (by omega), upd_ne _ _ (by omega), upd_eq]
      · rw [f3, if_neg (by omega), upd_eq]
      · rw [f3, if_pos (by omega)]
      · rw [f3, if_neg (by omega), upd_ne _ _ (by omega), upd_ne _ _ (by omega)]
    · simp only [if_neg (show ¬ (122 : Int32) ≤ nI k from nI_ge (b := 122) (by omega) (by omega)), nI_clamp (show k < 2 ^ 31 by omega), lt, nI_1]
      obtain ⟨F, f1, f2, f3, f4, f5, f6⟩ := ih (k + 1) (by omega) (by omega) (by omega) (msa m 0 (upd (m.2.2 0) k 0))
      rw [msa_msa] at f1
      refine ⟨F, f1, ⟨vp_in_n (by omega) (by omega), f2⟩, f3, f4, f5, fun q q1 q2 => ?_⟩
      rw [f6 q q1 q2, msa_3, updA_eq, upd_ne _ _ (by omega)]
theorem nI_of_rg {x : Int32} {a z : Nat} (h : rg x a z) : ∃ j : Nat, a ≤ j ∧ j ≤ z ∧ x = nI j := ⟨x.toInt.toNat, by have := h.1; omega, by have := h.2; omega, pu_nI (by have := h.1; omega)⟩
theorem field_eq (h : BR C R M W N b (m.2.2 0)) (c r : Int32) : stepR m (pX2_refusalOfField b c r) (pX2_startField b c r) True (pX12_begins m c r) (kX12_begins m c r) := by
  unfold stepR pX2_refusalOfField pX12_begins kX12_begins
  rw [in_eq, in_eq]
  by_cases hc : pX12_in c 2 20 = true
  · by_cases hr : pX12_in r 2 20 = true
    · simp only [if_pos hc, if_pos hr, lt]
      obtain ⟨F, f1, f2, f3, f4, f5, f6⟩ := zero1_L c r fu 14 (by omega) (by omega) (by have := fu_ge; omega) (msi m 5 (m.2.2 0 5))
      rw [show (14 : Int32) = nI 14 from rfl, f1]
      refine ⟨f2, Or.inr ⟨trivial, trivial, rfl, ?_, ⟨rfl, rfl, rfl, rfl, rfl, rfl, rfl⟩, ?_⟩⟩
      · show upd m.1 5 _ 5 = _
        rw [upd_eq]
        exact h.b2.symm
      · obtain ⟨c', c1, c2, ec⟩ := nI_of_rg ((in_iff _ _ _).mp hc)
        obtain ⟨r', r1, r2, er⟩ := nI_of_rg ((in_iff _ _ _).mp hr)
        have c1 : 2 ≤ c' := c1
        have c2 : c' ≤ 20 := c2
        have r1 : 2 ≤ r' := r1
        have r2 : r' ≤ 20 := r2
        subst ec er
        refine ⟨c', r', 0, 0, 0, ?_⟩
        show BR c' r' 0 0 0 _ F
        have hs := h.set
        refine ⟨⟨f3, f4, f5 2 (by omega) (by omega), f5 3 (by omega) (by omega), f5 4 (by omega) (by omega), ⟨c1, c2⟩, ⟨r1, r2⟩, ⟨by omega, by omega, by omega⟩, fun i hi => by omega, fun i hi => by omega, fun i hi => by omega, ?_⟩, ?_⟩
        · unfold okSet at hs ⊢
          rw [f6 6 (by omega) (by omega), f6 7 (by omega) (by omega), f6 8 (by omega) (by omega), f6 9 (by omega) (by omega), f6 10 (by omega) (by omega), f6 11 (by omega) (by omega), f6 12 (by omega) (by omega), f6 13 (by omega) (by omega)]
          exact hs
        · unfold relB
          rw [f3, f4, f5 2 (by omega) (by omega), f5 3 (by omega) (by omega), f5 4 (by omega) (by omega), f5 5 (by omega) (by omega), f6 6 (by omega) (by omega)]
          refine ⟨rfl, rfl, rfl, h.b3, rfl, rfl, rfl, h.b7, fun i hi => by omega, fun i hi => by omega, fun i hi => by omega, fun k hk => ?_⟩
          rw [f6 _ (by omega) (by omega)]
          exact h.setR hk
    · simp only [if_pos hc, if_neg hr]
      exact ⟨trivial, Or.inl ⟨by simp, by simp⟩⟩
  · simp only [if_neg hc]
    exact ⟨trivial, Or.inl ⟨by simp, by simp⟩⟩
/-- more rows: of a bench with one more microphone, wall or screen -/
theorem zmic_L {p : Nat} (hp : p < 8) (a z : Int32) : ∀ (n k : Nat), k ≤ 10 → 10 - k < n → ∀ m : MS, m.1 5 = nI p → ∃ F, pX12_comes_L53 n a z (nI k) m = (0, msa m 0 F) ∧ kX12_comes_L53 n a z (nI k) m ∧ F 2 = m.2.2 0 2 + 1 ∧ F (14 + 10 * p + 0) = a ∧ F (14 + 10 * p + 1) = z ∧ (∀ q, 2 ≤ q → q < 10 → k ≤ q → F (14 + 10 * p + q) = 0) ∧ (∀ q, 2 ≤ q → q < k → F (14 + 10 * p + q) = m.2.2 0 (14 + 10 * p + q)) ∧ (∀ q, q ≠ 2 → q < 14 + 10 * p ∨ 14 + 10 * p + 10 ≤ q → F q = m.2.2 0 q) := by
  intro n
  induction n with
  | zero => intro k h1 h2; omega
  | succ n ih =>
    intro k h1 h2 m h5
    have P := fun (m : MS) (k : Nat) (kk x : Int32) (e : kk = nI k) (hk : k < 10) => puts_eq (m := m) (i := p) (k := k) (kk := kk) (x := x) e hp hk
    show ∃ F, bX12_comes_L53 (pX12_comes_L53 n) _ _ _ _ = _ ∧ kbX12_comes_L53 (kX12_comes_L53 n) _ _ _ _ ∧ _
    unfold bX12_comes_L53 kbX12_comes_L53
    by_cases e : k = 10
    · subst e
      simp only [if_pos (show (10 : Int32) ≤ nI 10 from by decide), lt, h5, (P _ 0 0 _ rfl (by omega)).1, (P _ 1 1 _ rfl (by omega)).1, msa_1, msa_msa, msa_3, updA_eq]
      refine ⟨_, rfl, ⟨(P _ 0 0 _ rfl (by omega)).2, (P _ 1 1 _ rfl (by omega)).2⟩, ?_, ?_, ?_, fun q q1 q2 q3 => ?_, fun q q1 q2 => ?_, fun q q1 q2 => ?_⟩
      · rw [upd_eq, upd_ne _ _ (by omega), upd_ne _ _ (by omega)]
      · rw [upd_ne _ _ (by omega), upd_ne _ _ (by omega), upd_eq]
      · rw [upd_ne _ _ (by omega), upd_eq]
      · omega
      · rw [upd_ne _ _ (by omega), upd_ne _ _ (by omega), upd_ne _ _ (by omega)]
      · rw [upd_ne _ _ (by omega), upd_ne _ _ (by omega), upd_ne _ _ (by omega)]
    · simp only [if_neg (show ¬ (10 : Int32) ≤ nI k from nI_ge (b := 10) (by omega) (by omega)), h5, (P _ k (nI k) _ rfl (by omega)).1, lt, nI_1]
      obtain ⟨F, f1, f2, f3, f4, f5, f6, f7, f8⟩ := ih (k + 1) (by omega) (by omega) (msa m 0 (upd (m.2.2 0) (14 + 10 * p + k) 0)) h5
      rw [msa_msa] at f1
      simp only [msa_3, updA_eq] at f3 f7 f8
      refine ⟨F, f1, ⟨(P _ k (nI k) _ rfl (by omega)).2, f2⟩, ?_, f4, f5, fun q q1 q2 q3 => ?_, fun q q1 q2 => ?_, fun q q1 q2 => ?_⟩
      · rw [f3, upd_ne _ _ (by omega)]
      · by_cases c : q = k
        · subst c
          rw [f7 q q1 (by omega), upd_eq]
        · exact f6 q q1 q2 (by omega)
      · rw [f7 q q1 (by omega), upd_ne _ _ (by omega)]
      · rw [f8 q q1 q2, upd_ne _ _ (by omega)]
theorem mic_eq (h : BR C R M W N b (m.2.2 0)) (x y : Int32) : stepR m (pX2_refusalOfMicrophone b x y) (pX2_placeMicrophone b x y) (kX2_placeMicrophone b x y) (pX12_comes m x y) (kX12_comes m x y) := by
  have hl := h.le
  unfold stepR pX2_refusalOfMicrophone pX12_comes kX12_comes
  rw [in_eq, in_eq, h.b4, full_eq (cap := 8) (C := 8) rfl (by omega) (by omega), h.eM]
  by_cases hx : pX12_in x (-500) 2500 = true
  · by_cases hy : pX12_in y (-500) 2500 = true
    · by_cases h8 : M = 8
      · subst h8
        simp only [if_pos hx, if_pos hy, show nI 8 = 8 from rfl, if_true, show decide (8 ≤ 8) = true from rfl]
        exact ⟨trivial, Or.inl ⟨by simp, by simp⟩⟩
      · have e8 : ¬ nI M = 8 := fun e => h8 ((nI_eq (b := 8) (by omega) (by omega)).mp e)
        have d8 : ¬ decide (8 ≤ M) = true := by simp; omega
        simp only [if_pos hx, if_pos hy, if_neg e8, if_neg d8, lt]
        have hM : M < 8 := by omega
        obtain ⟨F, f1, f2, f3, f4, f5, f6, f7, f8⟩ := zmic_L hM x y fu 0 (by omega) (by have := fu_ge; omega) (msi m 5 (nI M)) (show upd m.1 5 (nI M) 5 = nI M from upd_eq _ _ _)
        rw [show (0 : Int32) = nI 0 from rfl, f1]
        refine ⟨f2, Or.inr ⟨trivial, ?_⟩⟩
        obtain ⟨a1, a2⟩ := addRow_eq (C := 8) (c := M) (w := 9) (len := 72) (cap := 8) (wid := 9) (f := b.2 0) rfl rfl hM (by omega) (by omega) (by omega) (by omega)
        have P : ∀ (F : Nat → Int32) (k : Nat) (kk y : Int32), kk = nI k → k < 9 → pX9_put 8 9 72 (nI (M + 1), F) (nI M) kk y = (nI (M + 1), upd F (M * 9 + k) y) ∧ kX9_put 8 9 72 (nI (M + 1), F) (nI M) kk y := fun F k kk y e hk => put_in (w := 9) rfl e rfl (by omega) hk (by omega) (by omega) (by omega) (by omega)
        have E : pX2_placeMicrophone b x y = (nI M, bst b 0 (nI (M + 1), upd (upd (upd (upd (noneRow (b.2 0) (M * 9) (M * 9 + 9)) (M * 9 + 0) x) (M * 9 + 1) y) (M * 9 + 2) 0) (M * 9 + 3) 0)) ∧ kX2_placeMicrophone b x y := by
          unfold pX2_placeMicrophone kX2_placeMicrophone
          simp only [bd, lt, h.b4, a1, bst_t0, bst_bst, (P _ 0 0 _ rfl (by omega)).1, (P _ 1 1 _ rfl (by omega)).1, (P _ 2 2 _ rfl (by omega)).1, (P _ 3 3 _ rfl (by omega)).1]
          exact ⟨trivial, a2, (P _ 0 0 _ rfl (by omega)).2, (P _ 1 1 _ rfl (by omega)).2, (P _ 2 2 _ rfl (by omega)).2, (P _ 3 3 _ rfl (by omega)).2⟩
        rw [E.1]
        refine ⟨E.2, rfl, (show upd m.1 5 (nI M) 5 = nI M from upd_eq _ _ _), ⟨rfl, rfl, rfl, rfl, rfl, rfl, rfl⟩, C, R, M + 1, W, N, ?_⟩
        show BR C R (M + 1) W N _ F
        have f8' : ∀ q, q ≠ 2 → q < 14 + 10 * M ∨ 14 + 10 * M + 10 ≤ q → F q = m.2.2 0 q := f8
        have hs := h.set
        have hxr := (in_iff _ _ _).mp hx
        have hyr := (in_iff _ _ _).mp hy
        refine ⟨⟨(f8' 0 (by omega) (by omega)).trans h.eC, (f8' 1 (by omega) (by omega)).trans h.eR, ?_, (f8' 3 (by omega) (by omega)).trans h.eW, (f8' 4 (by omega) (by omega)).trans h.eN, h.le.1, h.le.2.1, ⟨by omega, by omega, by omega⟩, ?_, fun i hi => okWall_same (h.wall hi) (fun k hk => f8' _ (by omega) (by omega)), fun i hi => okScr_same (h.scr hi) (fun k hk => f8' _ (by omega) (by omega)), ?_⟩, ?_⟩
        · rw [f3]
          show m.2.2 0 2 + 1 = _
          rw [h.eM, nI_1]
        · intro i hi
          by_cases e : i = M
          · subst e
            unfold okMic
            rw [f4, f5, f6 2 (by omega) (by omega) (by omega), f6 3 (by omega) (by omega) (by omega), f6 4 (by omega) (by omega) (by omega), f6 5 (by omega) (by omega) (by omega)]
            exact ⟨hxr, hyr, ⟨by decide, by decide⟩, ⟨by decide, by decide⟩, Or.inl rfl, ⟨by decide, by decide⟩⟩
          · exact okMic_same (h.mic (show i < M by omega)) (fun k hk => f8' _ (by omega) (by omega))
        · unfold okSet at hs ⊢
          rw [f8' 6 (by omega) (by omega), f8' 7 (by omega) (by omega), f8' 8 (by omega) (by omega), f8' 9 (by omega) (by omega), f8' 10 (by omega) (by omega), f8' 11 (by omega) (by omega), f8' 12 (by omega) (by omega), f8' 13 (by omega) (by omega)]
          exact hs
        · have e2 : F 2 = nI (M + 1) := by
            rw [f3]
            show m.2.2 0 2 + 1 = _
            rw [h.eM, nI_1]
          unfold relB
          rw [e2, f8' 0 (by omega) (by omega), f8' 1 (by omega) (by omega), f8' 3 (by omega) (by omega), f8' 4 (by omega) (by omega), f8' 5 (by omega) (by omega), f8' 6 (by omega) (by omega)]
          refine ⟨h.b0.trans h.eC.symm, h.b1.trans h.eR.symm, h.b2, h.b3, rfl, h.b5.trans h.eW.symm, h.b6.trans h.eN.symm, h.b7, ?_, ?_, ?_, ?_⟩
          · intro i hi
            by_cases e : i = M
            · subst e
              refine ⟨?_, ?_, ?_⟩
              · intro k hk
                have hc : k = 0 ∨ k = 1 ∨ k = 2 ∨ k = 3 := by omega
                rcases hc with rfl | rfl | rfl | rfl
                · show upd _ _ _ _ = _
                  rw [upd_ne _ _ (by omega), upd_ne _ _ (by omega), upd_ne _ _ (by omega), upd_eq, f4]
                · show upd _ _ _ _ = _
                  rw [upd_ne _ _ (by omega), upd_ne _ _ (by omega), upd_eq, f5]
                · show upd _ _ _ _ = _
                  rw [upd_ne _ _ (by omega), upd_eq, f6 2 (by omega) (by omega) (by omega)]
                · show upd _ _ _ _ = _
                  rw [upd_eq, f6 3 (by omega) (by omega) (by omega)]
              · intro h4
                rw [f6 4 (by omega) (by omega) (by omega)] at h4
                exact absurd h4 (by decide)
              · intro _ k hk
                show upd _ _ _ _ = _
                rw [upd_ne _ _ (by omega), upd_ne _ _ (by omega), upd_ne _ _ (by omega), upd_ne _ _ (by omega)]
                unfold noneRow
                rw [if_pos (by omega)]
            · refine micR_same (i := i) (h.mR (show i < M by omega)) (fun k hk => ?_) (fun k hk => f8' _ (by omega) (by omega))
              show upd _ _ _ _ = _
              rw [upd_ne _ _ (by omega), upd_ne _ _ (by omega), upd_ne _ _ (by omega), upd_ne _ _ (by omega)]
              unfold noneRow
              rw [if_neg (by omega)]
          · intro i hi k hk
            rw [f8' _ (by omega) (by omega)]
            exact h.wallR hi hk
          · intro i hi k hk
            rw [f8' _ (by omega) (by omega)]
            exact h.scrR hi hk
          · intro k hk
            rw [f8' _ (by omega) (by omega)]
            exact h.setR hk
    · simp only [if_pos hx, if_neg hy]
      exact ⟨trivial, Or.inl ⟨by simp, by simp⟩⟩
  · simp only [if_neg hx]
    exact ⟨trivial, Or.inl ⟨by simp, by simp⟩⟩
end PLACE
