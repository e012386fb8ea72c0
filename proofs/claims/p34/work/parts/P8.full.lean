/-! PURE: the whole relation; the saved states; the survey, as far as the law asks -/
section FULL
variable {C R M W N : Nat} {b b' b2 : BS} {g g' m m' w : Nat → Int32} {u : US} {s9 : SS}
def noteR (m : Nat → Int32) (i : Nat) : Int32 := if m (10 * i + 4) = 1 then m (10 * i + 5) else -1000000000
def okN (m : Nat → Int32) (i : Nat) : Prop := rg (m (10 * i + 3)) (-500000) 500000 ∧ (m (10 * i + 4) = 0 ∨ m (10 * i + 4) = 1) ∧ rg (m (10 * i + 5)) (-2000000) 2000000
def NR (b : BS) (m : Nat → Int32) (i : Nat) : Prop := b.2 0 (i * 9 + 3) = m (10 * i + 3) ∧ b.2 0 (i * 9 + 4) = noteR m i ∧ ∀ c, c < 4 → b.2 0 (i * 9 + (5 + c)) = m (10 * i + (6 + c))
def DR (C R M W N : Nat) (b : BS) (g m w : Nat → Int32) : Prop := BR C R M W N b g m w ∧ ∀ i, i < M → okN m i ∧ NR b m i
theorem DR.at3 (h : DR C R M W N b g m w) {i : Nat} (hi : i < M) : pX9_at 8 9 72 (b.1 4, b.2 0) (nI i) 3 = m (10 * i + 3) ∧ kX9_at 8 9 72 (b.1 4, b.2 0) (nI i) 3 := by
  have e := at9 h.1 (k := 3) (kk := 3) rfl hi (by omega)
  rw [(h.2 i hi).2.1] at e
  exact e
theorem DR.at4 (h : DR C R M W N b g m w) {i : Nat} (hi : i < M) : pX9_at 8 9 72 (b.1 4, b.2 0) (nI i) 4 = noteR m i ∧ kX9_at 8 9 72 (b.1 4, b.2 0) (nI i) 4 := by
  have e := at9 h.1 (k := 4) (kk := 4) rfl hi (by omega)
  rw [(h.2 i hi).2.2.1] at e
  exact e
theorem DR.at5 (h : DR C R M W N b g m w) {i c : Nat} {kk : Int32} (hk : kk = nI (5 + c)) (hi : i < M) (hc : c < 4) : pX9_at 8 9 72 (b.1 4, b.2 0) (nI i) kk = m (10 * i + (6 + c)) ∧ kX9_at 8 9 72 (b.1 4, b.2 0) (nI i) kk := by
  have e := at9 h.1 hk hi (show 5 + c < 9 by omega)
  rw [(h.2 i hi).2.2.2 c hc] at e
  exact e
def hasM (m : Nat → Int32) (j : Nat) : Bool := decide (m (10 * j + 4) = 1)
theorem hasNoted_eq (h : DR C R M W N b g m w) {i : Nat} (hi : i < M) : pX2_hasNoted b (nI i) = hasM m i ∧ kX2_hasNoted b (nI i) := by
  obtain ⟨e1, e2⟩ := h.at4 hi
  obtain ⟨-, o2, o3⟩ := (h.2 i hi).1
  unfold pX2_hasNoted kX2_hasNoted hasM
  rw [e1]
  refine ⟨?_, e2⟩
  unfold noteR
  by_cases c : m (10 * i + 4) = 1
  · rw [if_pos c, if_neg, c]
    · rfl
    · intro e
      rw [e] at o3
      exact absurd o3.1 (by decide)
  · rw [if_neg c, if_pos rfl]
    simp [c]
/-! the saved states -/
def eqB (b b' : BS) : Prop := (∀ k, k < 8 → b'.1 k = b.1 k) ∧ (∀ q, q < 72 → b'.2 0 q = b.2 0 q) ∧ (∀ q, q < 12 → b'.2 1 q = b.2 1 q) ∧ (∀ q, q < 16 → b'.2 2 q = b.2 2 q) ∧ (∀ q, q < 7 → b'.2 3 q = b.2 3 q)
theorem updA_self (f : Nat → Nat → Int32) (k : Nat) : updA f k (f k) = f := by
  funext j
  unfold updA
  by_cases e : j = k
  · rw [if_pos e, e]
  · rw [if_neg e]
theorem bst_id (b : BS) (j : Nat) : bst b j (b.1 (4 + j), b.2 j) = b := by
  unfold bst
  rw [upd_self, updA_self]
theorem cpy0 {f g : Nat → Int32} {n q : Nat} (h : q < n) : va_cpy f g 0 0 n q = f q := by
  rw [pk_cpy_in (Nat.zero_le _) (by omega)]
  congr 1
  omega
theorem copy_eq (b b2 : BS) : ∃ b', pX2_copyFrom b b2 = (b', b2) ∧ eqB b2 b' ∧ kX2_copyFrom b b2 := by
  have T := fun (cap wid cap2 wid2 : Int32) (len : Nat) (t t2 : TS) (h : len < 2 ^ 31) => tcopy_eq (cap := cap) (wid := wid) (cap2 := cap2) (wid2 := wid2) (len := len) (t := t) (t2 := t2) h
  unfold pX2_copyFrom kX2_copyFrom
  simp only [lt, (T _ _ _ _ 72 _ _ (by omega)).1, (T _ _ _ _ 12 _ _ (by omega)).1, (T _ _ _ _ 16 _ _ (by omega)).1, (T _ _ _ _ 7 _ _ (by omega)).1]
  have i0 : bst b2 0 (b2.1 4, b2.2 0) = b2 := bst_id b2 0
  have i1 : bst b2 1 (b2.1 5, b2.2 1) = b2 := bst_id b2 1
  have i2 : bst b2 2 (b2.1 6, b2.2 2) = b2 := bst_id b2 2
  have i3 : bst b2 3 (b2.1 7, b2.2 3) = b2 := bst_id b2 3
  rw [i0, i1, i2, i3]
  refine ⟨_, rfl, ⟨fun k hk => ?_, fun q hq => ?_, fun q hq => ?_, fun q hq => ?_, fun q hq => ?_⟩, (T _ _ _ _ 72 _ _ (by omega)).2, (T _ _ _ _ 12 _ _ (by omega)).2, (T _ _ _ _ 16 _ _ (by omega)).2, (T _ _ _ _ 7 _ _ (by omega)).2⟩
  · have hc : k = 0 ∨ k = 1 ∨ k = 2 ∨ k = 3 ∨ k = 4 ∨ k = 5 ∨ k = 6 ∨ k = 7 := by omega
    rcases hc with rfl | rfl | rfl | rfl | rfl | rfl | rfl | rfl <;> rfl
  · exact cpy0 (g := b.2 0) hq
  · exact cpy0 (g := b.2 1) hq
  · exact cpy0 (g := b.2 2) hq
  · exact cpy0 (g := b.2 3) hq
theorem usb_ne (u : US) {k j : Nat} (x : BS) (h : j ≠ k) : (usb u k x).2 j = u.2 j := if_neg h
theorem usb_eq (u : US) (k : Nat) (x : BS) : (usb u k x).2 k = x := if_pos rfl
theorem push_eq {u : US} {P nx : Nat} (hP : P ≤ 4) (hn : nx < 4) (h1 : u.1 1 = nI P) (h0 : u.1 0 = nI nx) (b : BS) : ∃ (u' : US) (b' : BS), pX10_push u b = (u', b) ∧ kX10_push u b ∧ u'.1 0 = nI ((nx + 1) % 4) ∧ u'.1 1 = nI (min (P + 1) 4) ∧ (∀ j, j ≠ nx → u'.2 j = u.2 j) ∧ u'.2 nx = b' ∧ eqB b b' := by
  have L : ∀ (k : Nat) (x : BS), pX10_push_L19 (usb u k x) b = (usi (usi (usb u k x) 0 (nI ((nx + 1) % 4))) 1 (nI (min (P + 1) 4)), b) := by
    intro k x
    unfold pX10_push_L19
    simp only [lt]
    have e0 : (usb u k x).1 0 = nI nx := h0
    have e1 : (usi (usb u k x) 0 (nI ((nx + 1) % 4))).1 1 = nI P := h1
    have er : nI (nx + 1) - nI (nx + 1) / 4 * 4 = nI ((nx + 1) % 4) := pk_rem (d := 4) (by omega) (by omega) (by omega)
    have em : jmin (nI (P + 1)) 4 = nI (min (P + 1) 4) := by
      apply Int32.toInt_inj.mp
      rw [jmin_ti, nI_toInt (by omega), nI_toInt (by omega), show ((4 : Int32)).toInt = 4 from rfl]
      omega
    rw [e0, nI_1, er, e1, nI_1, em]
  unfold pX10_push kX10_push
  rw [h0]
  have hc : nx = 0 ∨ nx = 1 ∨ nx = 2 ∨ nx = 3 := by omega
  rcases hc with rfl | rfl | rfl | rfl
  · obtain ⟨b', c1, c2, c3⟩ := copy_eq (u.2 0) b
    simp only [if_pos (show nI 0 = 0 from rfl), lt, c1, L]
    exact ⟨_, b', rfl, c3, rfl, rfl, fun j hj => usb_ne u b' hj, usb_eq u 0 b', c2⟩
  · obtain ⟨b', c1, c2, c3⟩ := copy_eq (u.2 1) b
    simp only [if_neg (show ¬ nI 1 = 0 from by decide), if_pos (show nI 1 = 1 from rfl), lt, c1, L]
    exact ⟨_, b', rfl, c3, rfl, rfl, fun j hj => usb_ne u b' hj, usb_eq u 1 b', c2⟩
  · obtain ⟨b', c1, c2, c3⟩ := copy_eq (u.2 2) b
    simp only [if_neg (show ¬ nI 2 = 0 from by decide), if_neg (show ¬ nI 2 = 1 from by decide), if_pos (show nI 2 = 2 from rfl), lt, c1, L]
    exact ⟨_, b', rfl, c3, rfl, rfl, fun j hj => usb_ne u b' hj, usb_eq u 2 b', c2⟩
  · obtain ⟨b', c1, c2, c3⟩ := copy_eq (u.2 3) b
    simp only [if_neg (show ¬ nI 3 = 0 from by decide), if_neg (show ¬ nI 3 = 1 from by decide), if_neg (show ¬ nI 3 = 2 from by decide), lt, c1, L]
    exact ⟨_, b', rfl, ⟨rfl, c3⟩, rfl, rfl, fun j hj => usb_ne u b' hj, usb_eq u 3 b', c2⟩
def UO (u : US) : Prop := ∃ P nx : Nat, P ≤ 4 ∧ nx < 4 ∧ u.1 1 = nI P ∧ u.1 0 = nI nx
theorem push_ok (h : UO u) (b : BS) : ∃ u', pX10_push u b = (u', b) ∧ kX10_push u b ∧ UO u' := by
  obtain ⟨P, nx, hP, hn, h1, h0⟩ := h
  obtain ⟨u', b', e1, e2, e3, e4, -⟩ := push_eq hP hn h1 h0 b
  exact ⟨u', e1, e2, min (P + 1) 4, (nx + 1) % 4, by omega, Nat.mod_lt _ (by omega), e4, e3⟩
theorem save_ok (h : UO u) (b : BS) (s9 : SS) (kk : Int32) : ∃ u', pX11_saveState b s9 u kk = (b, pX8_outdate s9, u', kk) ∧ kX11_saveState b s9 u kk ∧ UO u' := by
  obtain ⟨u', e1, e2, e3⟩ := push_ok h b
  refine ⟨u', ?_, e2, e3⟩
  unfold pX11_saveState
  simp only [lt, e1]
/-! the survey: how many have noted -/
theorem ssa_1 (s : SS) (k : Nat) (f : Nat → Int32) : (ssa s k f).1 = s.1 := rfl
theorem ssa_2 (s : SS) (k : Nat) (f : Nat → Int32) : (ssa s k f).2 = updA s.2 k f := rfl
theorem ssi_1 (s : SS) (k : Nat) (x : Int32) : (ssi s k x).1 = upd s.1 k x := rfl
theorem ssi_2 (s : SS) (k : Nat) (x : Int32) : (ssi s k x).2 = s.2 := rfl
theorem cnt_mono (P : Nat → Bool) {i j : Nat} (h : i ≤ j) : fa_cnt P i ≤ fa_cnt P j := by
  induction j with
  | zero => rw [show i = 0 by omega]; exact Nat.le_refl _
  | succ j ih =>
    by_cases e : i = j + 1
    · rw [e]; exact Nat.le_refl _
    · have := ih (by omega)
      have : fa_cnt P (j + 1) = fa_cnt P j + if P j = true then 1 else 0 := rfl
      omega
def nNot (m : Nat → Int32) (M : Nat) : Nat := fa_cnt (hasM m) M
/-- the survey holds what it has gathered -/
def HR (M K : Nat) (s : SS) : Prop := s.1 0 = nI K ∧ K ≤ M ∧ ∀ k, k < K → ∃ i, i < M ∧ s.2 2 k = nI i
theorem ga_L (h : DR C R M W N b g m w) : ∀ (n i : Nat), i ≤ M → M - i < n → ∀ s : SS, s.1 4 = -1 → HR M (fa_cnt (hasM m) i) s → ∃ s', pX8_gatherHearers_L20 n (nI M) (nI i) s b = (s', b) ∧ kX8_gatherHearers_L20 n (nI M) (nI i) s b ∧ HR M (nNot m M) s' ∧ s'.1 3 = s.1 3 ∧ s'.1 4 = s.1 4 := by
  have hl := h.1.le
  intro n
  induction n with
  | zero => intro i h1 h2; omega
  | succ n ih =>
    intro i h1 h2 s h4 hH
    show ∃ s', bX8_gatherHearers_L20 (pX8_gatherHearers_L20 n) _ _ _ _ = _ ∧ kbX8_gatherHearers_L20 (kX8_gatherHearers_L20 n) _ _ _ _ ∧ _
    unfold bX8_gatherHearers_L20 kbX8_gatherHearers_L20 pX8_gatherHearers_L61 kX8_gatherHearers_L61
    by_cases e : i = M
    · subst e
      simp only [if_pos (nI_le (Nat.le_refl i) (show i < 2 ^ 31 by omega))]
      exact ⟨s, rfl, trivial, hH, rfl, rfl⟩
    · have hi : i < M := by omega
      obtain ⟨q1, q2⟩ := hasNoted_eq h hi
      simp only [if_neg (nI_ge hi (show M < 2 ^ 31 by omega)), h4, if_neg (nI_m1 (p := i) (by omega)), q1, lt, nI_1]
      by_cases c : hasM m i = true
      · simp only [if_pos c]
        have ec := fa_cnt_le (hasM m) i
        obtain ⟨a1, a2, a3⟩ := hH
        have e2 : fa_cnt (hasM m) (i + 1) = fa_cnt (hasM m) i + 1 := fa_cnt_yes c
        have e9 : (ssa s 2 (upd (s.2 2) (fa_cnt (hasM m) i) (nI i))).1 0 + 1 = nI (fa_cnt (hasM m) i + 1) := by
          show s.1 0 + 1 = _
          rw [a1, nI_1]
        rw [a1, nI_clamp (by omega), e9]
        obtain ⟨s', r1, r2, r3, r4, r5⟩ := ih (i + 1) (by omega) (by omega) (ssi (ssa s 2 (upd (s.2 2) (fa_cnt (hasM m) i) (nI i))) 0 (nI (fa_cnt (hasM m) i + 1))) h4 ⟨by rw [e2]; rfl, by omega, fun k hk => by
          show ∃ j, j < M ∧ upd (s.2 2) (fa_cnt (hasM m) i) (nI i) k = nI j
          by_cases ek : k = fa_cnt (hasM m) i
          · subst ek
            exact ⟨i, hi, upd_eq _ _ _⟩
          · rw [upd_ne _ _ ek]
            exact a3 k (by omega)⟩
        exact ⟨s', r1, ⟨q2, vp_in_n (by omega) (by omega), r2⟩, r3, r4, r5.trans h4⟩
      · simp only [if_neg c]
        have e2 : fa_cnt (hasM m) (i + 1) = fa_cnt (hasM m) i := fa_cnt_no (by cases h9 : hasM m i <;> simp_all)
        obtain ⟨s', r1, r2, r3, r4, r5⟩ := ih (i + 1) (by omega) (by omega) s h4 (by rw [e2]; exact hH)
        exact ⟨s', r1, ⟨q2, r2⟩, r3, r4, r5.trans h4⟩
/-- what judging keeps -/
def same (s s' : SS) : Prop := s'.1 = s.1 ∧ s'.2 2 = s.2 2
theorem same.rfl' (s : SS) : same s s := ⟨rfl, rfl⟩
theorem same.trans {s s' s2 : SS} (h : same s s') (k : same s' s2) : same s s2 := ⟨k.1.trans h.1, k.2.trans h.2⟩
theorem same.HR {s s' : SS} {K : Nat} (h : same s s') (k : HR M K s) : HR M K s' := by
  obtain ⟨a1, a2, a3⟩ := k
  exact ⟨by rw [h.1]; exact a1, a2, by rw [h.2]; exact a3⟩
theorem tr_L (h : DR C R M W N b g m w) {c K : Nat} (hc : c < C * R) : ∀ (n k : Nat), k ≤ K → K - k < n → ∀ s : SS, HR M K s → ∃ s', pX8_traceStarts_L2 n (nI c) (nI k) s b = (s', b) ∧ kX8_traceStarts_L2 n (nI c) (nI k) s b ∧ same s s' := by
  have hl := h.1.le
  intro n
  induction n with
  | zero => intro k h1 h2; omega
  | succ n ih =>
    intro k h1 h2 s hH
    have hH' := hH
    obtain ⟨a1, a2, a3⟩ := hH'
    show ∃ s', bX8_traceStarts_L2 (pX8_traceStarts_L2 n) _ _ _ _ = _ ∧ kbX8_traceStarts_L2 (kX8_traceStarts_L2 n) _ _ _ _ ∧ _
    unfold bX8_traceStarts_L2 kbX8_traceStarts_L2
    rw [a1]
    by_cases e : k = K
    · subst e
      simp only [if_pos (nI_le (Nat.le_refl k) (show k < 2 ^ 31 by omega))]
      exact ⟨s, rfl, trivial, same.rfl' s⟩
    · have hk : k < K := by omega
      obtain ⟨i, hi, ei⟩ := a3 k hk
      obtain ⟨T, t1, t2, t3⟩ := from_eq h.1 hc hi
      obtain ⟨d1, d2⟩ := h.at4 hi
      simp only [if_neg (nI_ge hk (show K < 2 ^ 31 by omega)), lt, nI_clamp (show k < 2 ^ 31 by omega), ei, nI_1]
      have hs : same s (ssa s 3 (upd (s.2 3) k (pX9_at 8 9 72 (b.1 4, b.2 0) (nI i) 4 - pX2_timeFromCell b (nI c) (nI i)))) := ⟨rfl, rfl⟩
      obtain ⟨s', r1, r2, r3⟩ := ih (k + 1) (by omega) (by omega) _ (hs.HR hH)
      exact ⟨s', r1, ⟨vp_in_n (by omega) (by omega), d2, t3, vp_in_n (by omega) (by omega), r2⟩, hs.trans r3⟩
abbrev QJ : Type := Int32 → Int32 → Int32 → Int32 → Int32 → SS → BS → (SS × BS)
abbrev QJP : Type := Int32 → Int32 → Int32 → Int32 → Int32 → SS → BS → Prop
theorem ji_L {c tol : Int32} {s : SS} {K : Nat} (hK : K ≤ 4) (h0 : s.1 0 = nI K) {k : Nat} (hk : k < K) (q : QJ) (Q : QJP) (hq : ∀ v4 v5, ∃ s', q c tol v4 v5 (nI (k + 1)) s b = (s', b) ∧ Q c tol v4 v5 (nI (k + 1)) s b ∧ same s s') : ∀ (n l : Nat), l ≤ K → K - l < n → ∀ v4 v5 : Int32, ∃ s', pX8_judge_L37 q n c tol v4 v5 (nI k) (nI l) s b = (s', b) ∧ kX8_judge_L37 Q n c tol v4 v5 (nI k) (nI l) s b ∧ same s s' := by
  intro n
  induction n with
  | zero => intro l h1 h2; omega
  | succ n ih =>
    intro l h1 h2 v4 v5
    show ∃ s', bX8_judge_L37 q (pX8_judge_L37 q n) _ _ _ _ _ _ _ _ = _ ∧ kbX8_judge_L37 Q (kX8_judge_L37 Q n) _ _ _ _ _ _ _ _ ∧ _
    unfold bX8_judge_L37 kbX8_judge_L37 pX8_judge_L72 kX8_judge_L72
    rw [h0]
    by_cases e : l = K
    · subst e
      simp only [if_pos (nI_le (Nat.le_refl l) (show l < 2 ^ 31 by omega)), lt, nI_1]
      exact hq v4 v5
    · have hlK : l < K := by omega
      simp only [if_neg (nI_ge hlK (show K < 2 ^ 31 by omega)), lt, nI_1]
      have hg : kX8_gapOf s (nI k) (nI l) := ⟨vp_in_n (by omega) (by omega), vp_in_n (by omega) (by omega)⟩
      by_cases cc : tol < pX8_gapOf s (nI k) (nI l)
      · simp only [if_pos cc]
        obtain ⟨s', r1, r2, r3⟩ := ih (l + 1) (by omega) (by omega) v4 (v5 + pX8_gapOf s (nI k) (nI l))
        exact ⟨s', r1, ⟨hg, r2⟩, r3⟩
      · simp only [if_neg cc]
        obtain ⟨s', r1, r2, r3⟩ := ih (l + 1) (by omega) (by omega) (v4 + 1) (v5 + pX8_gapOf s (nI k) (nI l))
        exact ⟨s', r1, ⟨hg, r2⟩, r3⟩
theorem jo_L {c : Nat} (hc : c < 400) {tol : Int32} {s : SS} {K : Nat} (hK : K ≤ 4) (h0 : s.1 0 = nI K) : ∀ (n k : Nat), k ≤ K → K - k < n → ∀ v4 v5 : Int32, ∃ s', pX8_judge_L22 n (nI c) tol v4 v5 (nI k) s b = (s', b) ∧ kX8_judge_L22 n (nI c) tol v4 v5 (nI k) s b ∧ same s s' := by
  intro n
  induction n with
  | zero => intro k h1 h2; omega
  | succ n ih =>
    intro k h1 h2 v4 v5
    show ∃ s', bX8_judge_L22 (pX8_judge_L22 n) _ _ _ _ _ _ _ = _ ∧ kbX8_judge_L22 (kX8_judge_L22 n) _ _ _ _ _ _ _ ∧ _
    unfold bX8_judge_L22 kbX8_judge_L22
    rw [h0]
    by_cases e : k = K
    · subst e
      simp only [if_pos (nI_le (Nat.le_refl k) (show k < 2 ^ 31 by omega)), lt]
      exact ⟨_, rfl, ⟨vp_in_n hc (by omega), vp_in_n hc (by omega)⟩, rfl, rfl⟩
    · have hk : k < K := by omega
      simp only [if_neg (nI_ge hk (show K < 2 ^ 31 by omega)), lt, nI_1]
      exact ji_L hK h0 hk _ _ (fun v4 v5 => ih (k + 1) (by omega) (by omega) v4 v5) fu (k + 1) (by omega) (by have := fu_ge; omega) v4 v5
theorem judge_ok (h : DR C R M W N b g m w) {c K : Nat} (hc : c < C * R) {s : SS} (hH : HR M K s) : ∃ s', pX8_judge s b (nI c) = (s', b) ∧ kX8_judge s b (nI c) ∧ same s s' := by
  have hl := h.1.le
  have hCR : C * R ≤ 20 * 20 := Nat.mul_le_mul (by omega) (by omega)
  obtain ⟨s1, a1, a2, a3⟩ := tr_L h hc fu 0 (by omega) (by have := fu_ge; have := hH.2.1; omega) s hH
  obtain ⟨u1, u2⟩ := setting_eq (i := 6) (ii := 6) h.1 rfl (by omega)
  have hH1 := a3.HR hH
  obtain ⟨s', r1, r2, r3⟩ := jo_L (b := b) (c := c) (by omega) (tol := pX2_setting b 6) (s := s1) (K := K) (by have := hH.2.1; omega) hH1.1 fu 0 (by omega) (by have := fu_ge; have := hH.2.1; omega) 0 0
  unfold pX8_judge kX8_judge pX8_traceStarts kX8_traceStarts
  have a1 : pX8_traceStarts_L2 fu (nI c) 0 s b = (s1, b) := a1
  simp only [lt, a1]
  exact ⟨s', r1, ⟨a2, u2, r2⟩, a3.trans r3⟩
/-- what choosing keeps -/
def sameC (s s' : SS) : Prop := ∀ q, q ≠ 1 → q ≠ 2 → s'.1 q = s.1 q
theorem c107_L {n' z : Nat} (hn : n' ≤ 400) (hz : z < n') : ∀ (n c : Nat), c ≤ n' → n' - c < n → ∀ s : SS, ∃ s', pX8_choose_L107 n (nI n') (nI z) (nI c) s = s' ∧ kX8_choose_L107 n (nI n') (nI z) (nI c) s ∧ sameC s s' := by
  intro n
  induction n with
  | zero => intro c h1 h2; omega
  | succ n ih =>
    intro c h1 h2 s
    show ∃ s', bX8_choose_L107 (pX8_choose_L107 n) _ _ _ _ = _ ∧ kbX8_choose_L107 (kX8_choose_L107 n) _ _ _ _ ∧ _
    unfold bX8_choose_L107 kbX8_choose_L107 pX8_choose_L137 kX8_choose_L137
    by_cases e : c = n'
    · subst e
      simp only [if_pos (nI_le (Nat.le_refl c) (show c < 2 ^ 31 by omega)), lt]
      exact ⟨_, rfl, trivial, fun q h1 h2 => upd_ne _ _ h1⟩
    · have hc : c < n' := by omega
      simp only [if_neg (nI_ge hc (show n' < 2 ^ 31 by omega)), lt, nI_1, nI_clamp (show c < 2 ^ 31 by omega), nI_clamp (show z < 2 ^ 31 by omega)]
      by_cases cc : s.2 0 c = s.2 0 z
      · simp only [if_pos cc]
        obtain ⟨s', r1, r2, r3⟩ := ih (c + 1) (by omega) (by omega) (ssi s 2 (s.1 2 + 1))
        exact ⟨s', r1, ⟨vp_in_n (by omega) (by omega), vp_in_n (by omega) (by omega), r2⟩, fun q h1 h2 => (r3 q h1 h2).trans (upd_ne _ _ h2)⟩
      · simp only [if_neg cc]
        obtain ⟨s', r1, r2, r3⟩ := ih (c + 1) (by omega) (by omega) s
        exact ⟨s', r1, ⟨vp_in_n (by omega) (by omega), vp_in_n (by omega) (by omega), r2⟩, r3⟩
theorem c48 (q : Int32 → Int32 → Int32 → SS → SS) (Q : Int32 → Int32 → Int32 → SS → Prop) (v1 v2 v3 : Int32) (t0 : Bool) (s : SS) (h3 : vp_in v3 400) (h2 : vp_in v2 400) : ∃ z, (z = v2 ∨ z = v3) ∧ pX8_choose_L48 q v1 v2 v3 t0 s = q v1 z (v3 + 1) s ∧ (Q v1 z (v3 + 1) s → kX8_choose_L48 Q v1 v2 v3 t0 s) := by
  unfold pX8_choose_L48 kX8_choose_L48 pX8_choose_L84 kX8_choose_L84 pX8_choose_L85 kX8_choose_L85 pX8_choose_L97 kX8_choose_L97 pX8_choose_L99 kX8_choose_L99
  simp only [lt, h3, h2, true_and]
  by_cases c1 : s.2 0 v3.toNatClampNeg = s.2 0 v2.toNatClampNeg
  · by_cases c2 : s.2 1 v2.toNatClampNeg ≤ s.2 1 v3.toNatClampNeg
    · cases t0
      · simp only [if_pos c1, if_pos c2, Bool.false_eq_true, if_false]
        exact ⟨v2, Or.inl rfl, rfl, fun h => h⟩
      · simp only [if_pos c1, if_pos c2, if_true]
        exact ⟨v3, Or.inr rfl, rfl, fun h => h⟩
    · cases t0
      · simp only [if_pos c1, if_neg c2, Bool.false_eq_true, if_false, if_true]
        exact ⟨v3, Or.inr rfl, rfl, fun h => h⟩
      · simp only [if_pos c1, if_neg c2, if_true]
        exact ⟨v3, Or.inr rfl, rfl, fun h => h⟩
  · cases t0
    · simp only [if_neg c1, Bool.false_eq_true, if_false]
      exact ⟨v2, Or.inl rfl, rfl, fun h => h⟩
    · simp only [if_neg c1, if_true]
      exact ⟨v3, Or.inr rfl, rfl, fun h => h⟩
theorem c23_L {n' : Nat} (hn : n' ≤ 400) : ∀ (n c z : Nat), c ≤ n' → n' - c < n → z < n' → ∀ s : SS, ∃ s', pX8_choose_L23 n (nI n') (nI z) (nI c) s = s' ∧ kX8_choose_L23 n (nI n') (nI z) (nI c) s ∧ sameC s s' := by
  intro n
  induction n with
  | zero => intro c z h1 h2; omega
  | succ n ih =>
    intro c z h1 h2 hz s
    show ∃ s', bX8_choose_L23 (pX8_choose_L23 n) _ _ _ _ = _ ∧ kbX8_choose_L23 (kX8_choose_L23 n) _ _ _ _ ∧ _
    unfold bX8_choose_L23 kbX8_choose_L23
    by_cases e : c = n'
    · subst e
      simp only [if_pos (nI_le (Nat.le_refl c) (show c < 2 ^ 31 by omega))]
      exact c107_L hn hz fu 0 (by omega) (by have := fu_ge; omega) s
    · have hc : c < n' := by omega
      simp only [if_neg (nI_ge hc (show n' < 2 ^ 31 by omega))]
      have v1 : vp_in (nI c) 400 := vp_in_n (by omega) (by omega)
      have v2 : vp_in (nI z) 400 := vp_in_n (by omega) (by omega)
      have D : ∀ t0 : Bool, ∃ s', pX8_choose_L48 (pX8_choose_L23 n) (nI n') (nI z) (nI c) t0 s = s' ∧ kX8_choose_L48 (kX8_choose_L23 n) (nI n') (nI z) (nI c) t0 s ∧ sameC s s' := by
        intro t0
        obtain ⟨y, y1, y2, y3⟩ := c48 (pX8_choose_L23 n) (kX8_choose_L23 n) (nI n') (nI z) (nI c) t0 s v1 v2
        rw [nI_1] at y2 y3
        rw [y2]
        rcases y1 with rfl | rfl
        · obtain ⟨s', r1, r2, r3⟩ := ih (c + 1) z (by omega) (by omega) hz s
          exact ⟨s', r1, y3 r2, r3⟩
        · obtain ⟨s', r1, r2, r3⟩ := ih (c + 1) c (by omega) (by omega) hc s
          exact ⟨s', r1, y3 r2, r3⟩
      by_cases cc : s.2 0 (nI c).toNatClampNeg ≤ s.2 0 (nI z).toNatClampNeg
      · simp only [if_pos cc]
        obtain ⟨s', r1, r2, r3⟩ := D false
        exact ⟨s', r1, ⟨v1, v2, r2⟩, r3⟩
      · simp only [if_neg cc]
        obtain ⟨s', r1, r2, r3⟩ := D true
        exact ⟨s', r1, ⟨v1, v2, r2⟩, r3⟩
theorem choose_ok {n' : Nat} (hn : n' ≤ 400) (h0 : 0 < n') (s : SS) : kX8_choose s (nI n') ∧ sameC s (pX8_choose s (nI n')) := by
  unfold pX8_choose kX8_choose
  simp only [lt]
  have hS : sameC s (ssi (ssi s 1 (-1000000000)) 2 0) := fun q h1 h2 => (upd_ne _ _ h2).trans (upd_ne _ _ h1)
  by_cases c : pX8_pairCount (ssi (ssi s 1 (-1000000000)) 2 0) = 0
  · simp only [if_pos c]
    exact ⟨trivial, hS⟩
  · simp only [if_neg c]
    obtain ⟨s', r1, r2, r3⟩ := c23_L hn fu 1 0 (by omega) (by have := fu_ge; omega) h0 (ssi (ssi s 1 (-1000000000)) 2 0)
    have r1 : pX8_choose_L23 fu (nI n') 0 1 (ssi (ssi s 1 (-1000000000)) 2 0) = s' := r1
    rw [r1]
    exact ⟨r2, fun q h1 h2 => (r3 q h1 h2).trans (hS q h1 h2)⟩
theorem t45_L (h : DR C R M W N b g m w) {K : Nat} : ∀ (n c : Nat), c ≤ C * R → C * R - c < n → ∀ s : SS, HR M K s → ∃ s', pX8_take_L45 n (nI (C * R)) (nI c) s b = (s', b) ∧ kX8_take_L45 n (nI (C * R)) (nI c) s b ∧ sameC s s' := by
  have hl := h.1.le
  have hCR : C * R ≤ 20 * 20 := Nat.mul_le_mul (by omega) (by omega)
  have hCR0 : 0 < C * R := Nat.mul_pos (by omega) (by omega)
  intro n
  induction n with
  | zero => intro c h1 h2; omega
  | succ n ih =>
    intro c h1 h2 s hH
    show ∃ s', bX8_take_L45 (pX8_take_L45 n) _ _ _ _ = _ ∧ kbX8_take_L45 (kX8_take_L45 n) _ _ _ _ ∧ _
    unfold bX8_take_L45 kbX8_take_L45
    by_cases e : c = C * R
    · rw [e]
      simp only [if_pos (nI_le (Nat.le_refl (C * R)) (show C * R < 2 ^ 31 by omega)), lt]
      obtain ⟨k1, k2⟩ := choose_ok (n' := C * R) (by omega) hCR0 s
      exact ⟨_, rfl, k1, k2⟩
    · have hc : c < C * R := by omega
      simp only [if_neg (nI_ge hc (show C * R < 2 ^ 31 by omega))]
      obtain ⟨s1, a1, a2, a3⟩ := judge_ok h hc hH
      simp only [a1, lt, nI_1]
      obtain ⟨s', r1, r2, r3⟩ := ih (c + 1) (by omega) (by omega) s1 (a3.HR hH)
      exact ⟨s', r1, ⟨a2, r2⟩, fun q h1 h2 => (r3 q h1 h2).trans (by rw [a3.1])⟩
/-- the survey is old, or holds how many have noted -/
def SVI (M : Nat) (m : Nat → Int32) (s : SS) : Prop := s.1 3 = 0 ∨ (s.1 4 = -1 ∧ s.1 0 = nI (nNot m M))
theorem SVI_old (M : Nat) (m : Nat → Int32) (s : SS) : SVI M m (pX8_outdate s) := Or.inl rfl
theorem nNot_le (m : Nat → Int32) (M : Nat) : nNot m M ≤ M := fa_cnt_le _ _
theorem take_ok (h : DR C R M W N b g m w) {s : SS} (hV : SVI M m s) : ∃ s', pX8_take s b (-1) = (s', b) ∧ kX8_take s b (-1) ∧ SVI M m s' ∧ s'.1 0 = nI (nNot m M) := by
  have hl := h.1.le
  have hCR : C * R ≤ 20 * 20 := Nat.mul_le_mul (by omega) (by omega)
  have L16 : ∃ s', pX8_take_L16 (-1) s b = (s', b) ∧ kX8_take_L16 (-1) s b ∧ SVI M m s' ∧ s'.1 0 = nI (nNot m M) := by
    unfold pX8_take_L16 kX8_take_L16 pX8_gatherHearers kX8_gatherHearers
    have ej : jmin (b.1 4) 8 = nI M := by
      rw [h.1.b4]
      unfold jmin
      rw [if_neg (fun e => by
        have := (nI_ltI (a := 8) (b := M) (by omega) (by omega)).mp e
        omega)]
    have ec : jmin (pX2_cellCount b) 400 = nI (C * R) := by
      unfold pX2_cellCount jmin
      rw [h.1.b0, h.1.b1, pk_mul, if_neg (fun e => by
        have := (nI_ltI (a := 400) (b := C * R) (by omega) (by omega)).mp e
        omega)]
    obtain ⟨s1, a1, a2, a3, a4, a5⟩ := ga_L h fu 0 (by omega) (by have := fu_ge; omega) (ssi (ssi (ssi s 4 (-1)) 3 1) 0 0) rfl ⟨rfl, by show 0 ≤ M; omega, fun k hk => absurd hk (Nat.not_lt_zero _)⟩
    have a1 : pX8_gatherHearers_L20 fu (nI M) 0 (ssi (ssi (ssi s 4 (-1)) 3 1) 0 0) b = (s1, b) := a1
    have a2 : kX8_gatherHearers_L20 fu (nI M) 0 (ssi (ssi (ssi s 4 (-1)) 3 1) 0 0) b := a2
    simp only [lt, ej, a1, ec]
    obtain ⟨s', r1, r2, r3⟩ := t45_L h fu 0 (by omega) (by have := fu_ge; omega) s1 a3
    have e0 : s'.1 0 = nI (nNot m M) := (r3 0 (by omega) (by omega)).trans a3.1
    exact ⟨s', r1, ⟨a2, r2⟩, Or.inr ⟨(r3 4 (by omega) (by omega)).trans a5, e0⟩, e0⟩
  unfold pX8_take kX8_take
  rcases hV with e | ⟨e1, e2⟩
  · simp only [if_pos e]
    exact L16
  · by_cases e : s.1 3 = 0
    · simp only [if_pos e]
      exact L16
    · simp only [if_neg e, if_pos e1]
      exact ⟨s, rfl, trivial, Or.inr ⟨e1, e2⟩, e2⟩
end FULL
