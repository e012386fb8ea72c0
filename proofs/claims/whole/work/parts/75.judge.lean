/-! PURE: the class's votes and errors of a cell -/
section JUDGE
variable {C R M W N : Nat} {b b' : BS} {S S' : Nat → Int32} {m : MS}
theorem ssa_1 (s : SS) (k : Nat) (f : Nat → Int32) : (ssa s k f).1 = s.1 := rfl
theorem ssa_2 (s : SS) (k : Nat) (f : Nat → Int32) : (ssa s k f).2 = updA s.2 k f := rfl
theorem ssi_1 (s : SS) (k : Nat) (x : Int32) : (ssi s k x).1 = upd s.1 k x := rfl
theorem ssi_2 (s : SS) (k : Nat) (x : Int32) : (ssi s k x).2 = s.2 := rfl
theorem ssa_ssa (s : SS) (k : Nat) (f g : Nat → Int32) : ssa (ssa s k f) k g = ssa s k g := by
  unfold ssa
  rw [updA_updA]
theorem ssa_id (s : SS) (k : Nat) : ssa s k (s.2 k) = s := by
  unfold ssa
  rw [updA_self]
theorem cnt_mono (P : Nat → Bool) {i j : Nat} (h : i ≤ j) : fa_cnt P i ≤ fa_cnt P j := by
  induction j with
  | zero => rw [show i = 0 by omega]; exact Nat.le_refl _
  | succ j ih =>
    by_cases e : i = j + 1
    · rw [e]; exact Nat.le_refl _
    · have := ih (by omega)
      have : fa_cnt P (j + 1) = fa_cnt P j + if P j = true then 1 else 0 := rfl
      omega
theorem cnt_lt (P : Nat → Bool) {i M : Nat} (h : i < M) (hi : P i = true) : fa_cnt P i < fa_cnt P M := by
  have a := fa_cnt_yes hi
  have b := cnt_mono P (show i + 1 ≤ M from h)
  omega
theorem cnt_surj (P : Nat → Bool) (M : Nat) {k : Nat} (h : k < fa_cnt P M) : ∃ i, i < M ∧ P i = true ∧ fa_cnt P i = k := by
  induction M with
  | zero => exact absurd h (Nat.not_lt_zero _)
  | succ M ih =>
    by_cases hP : P M = true
    · by_cases e : k = fa_cnt P M
      · exact ⟨M, by omega, hP, e.symm⟩
      · rw [fa_cnt_yes hP] at h
        obtain ⟨i, a, b, c⟩ := ih (by omega)
        exact ⟨i, by omega, b, c⟩
    · rw [fa_cnt_no (by simpa using hP)] at h
      obtain ⟨i, a, b, c⟩ := ih h
      exact ⟨i, by omega, b, c⟩
theorem jabs_gap {p q s t : Int32} (hp : rg p (-800000) 800000) (hq : rg q (-800000) 800000) (hs : rg s 0 300000) (ht : rg t 0 300000) : jabs (p - s - (q - t)) = pX12_apart (p - q) (s - t) := by
  obtain ⟨p1, p2⟩ := hp
  obtain ⟨q1, q2⟩ := hq
  obtain ⟨s1, s2⟩ := hs
  obtain ⟨t1, t2⟩ := ht
  have a1 : (p - s).toInt = p.toInt - s.toInt := Kit.i32_sub (by omega) (by omega)
  have a2 : (q - t).toInt = q.toInt - t.toInt := Kit.i32_sub (by omega) (by omega)
  have a3 : (p - q).toInt = p.toInt - q.toInt := Kit.i32_sub (by omega) (by omega)
  have a4 : (s - t).toInt = s.toInt - t.toInt := Kit.i32_sub (by omega) (by omega)
  have a5 : (p - s - (q - t)).toInt = p.toInt - s.toInt - (q.toInt - t.toInt) := by rw [Kit.i32_sub (by omega) (by omega), a1, a2]
  have a6 : (p - q - (s - t)).toInt = p.toInt - q.toInt - (s.toInt - t.toInt) := by rw [Kit.i32_sub (by omega) (by omega), a3, a4]
  have a7 : (s - t - (p - q)).toInt = s.toInt - t.toInt - (p.toInt - q.toInt) := by rw [Kit.i32_sub (by omega) (by omega), a3, a4]
  have z0 : ((0 : Int32)).toInt = 0 := rfl
  have a8 : (0 - (p - s - (q - t))).toInt = - (p - s - (q - t)).toInt := by rw [Kit.i32_sub (by omega) (by omega), z0]; omega
  unfold jabs pX12_apart
  apply Int32.toInt_inj.mp
  by_cases h : 0 ≤ p - s - (q - t)
  · rw [if_pos h]
    rw [fa_le, z0, a5] at h
    by_cases g : s - t ≤ p - q
    · rw [if_pos g, a5, a6]; omega
    · rw [fa_le, a3, a4] at g; omega
  · rw [if_neg h]
    rw [fa_le, z0, a5] at h
    by_cases g : s - t ≤ p - q
    · rw [fa_le, a3, a4] at g; omega
    · rw [if_neg g, a8, a5, a7]; omega
/-- the hearers that a survey holds -/
def HR (P : Nat → Bool) (M : Nat) (s : SS) : Prop := s.1 0 = nI (fa_cnt P M) ∧ ∀ i, i < M → P i = true → s.2 2 (fa_cnt P i) = nI i
def startR (S : Nat → Int32) (P : Nat → Bool) (M c : Nat) (s : SS) : Prop := ∀ i, i < M → P i = true → s.2 3 (fa_cnt P i) = nt S i - tf S c i
theorem gap_eq (h : BR C R M W N b S) {P : Nat → Bool} {c i j : Nat} (hc : c < C * R) (hi : i < M) (hj : j < M) (pi : P i = true) (pj : P j = true) {s : SS} (hs : startR S P M c s) : pX8_gapOf s (nI (fa_cnt P i)) (nI (fa_cnt P j)) = gpS S c i j ∧ kX8_gapOf s (nI (fa_cnt P i)) (nI (fa_cnt P j)) := by
  have hl := h.le
  have c1 := fa_cnt_le P i
  have c2 := fa_cnt_le P j
  obtain ⟨T, T1, T2, -⟩ := tf_eq h hc hi
  obtain ⟨U, U1, U2, -⟩ := tf_eq h hc hj
  obtain ⟨-, -, -, -, -, m1⟩ := h.mic hi
  obtain ⟨-, -, -, -, -, m2⟩ := h.mic hj
  unfold pX8_gapOf kX8_gapOf
  rw [nI_clamp (by omega), nI_clamp (by omega), hs i hi pi, hs j hj pj]
  refine ⟨?_, vp_in_n (by omega) (by omega), vp_in_n (by omega) (by omega)⟩
  have r1 : rg (tf S c i) 0 300000 := by unfold rg; rw [T2, nI_toInt (by omega)]; omega
  have r2 : rg (tf S c j) 0 300000 := by unfold rg; rw [U2, nI_toInt (by omega)]; omega
  exact jabs_gap m1 m2 r1 r2
theorem ci_L (h : BR C R M W N b S) {P : Nat → Bool} {c i : Nat} (hc : c < C * R) (hi : i < M) (pi : P i = true) {s : SS} (hH : HR P M s) (hs : startR S P M c s) (q : Int32 → Int32 → Int32 → Int32 → Int32 → SS → BS → SS × BS) (Q : Int32 → Int32 → Int32 → Int32 → Int32 → SS → BS → Prop) : ∀ (d j n : Nat), M - j = d → j ≤ M → fa_cnt P M - fa_cnt P j < n → ∀ a : A3,
    pX8_judge_L37 q n (nI c) (S 13) a.1 a.2.1 (nI (fa_cnt P i)) (nI (fa_cnt P j)) s b = q (nI c) (S 13) (inS P (gpS S c i) (S 13) d j a).1 (inS P (gpS S c i) (S 13) d j a).2.1 (nI (fa_cnt P i + 1)) s b ∧ (Q (nI c) (S 13) (inS P (gpS S c i) (S 13) d j a).1 (inS P (gpS S c i) (S 13) d j a).2.1 (nI (fa_cnt P i + 1)) s b → kX8_judge_L37 Q n (nI c) (S 13) a.1 a.2.1 (nI (fa_cnt P i)) (nI (fa_cnt P j)) s b) := by
  have hl := h.le
  have cM := fa_cnt_le P M
  intro d
  induction d with
  | zero =>
    intro j n h1 h2 h3 a
    have e : j = M := by omega
    subst e
    obtain ⟨n, rfl⟩ : ∃ p, n = p + 1 := ⟨n - 1, by omega⟩
    show bX8_judge_L37 q (pX8_judge_L37 q n) _ _ _ _ _ _ _ _ = _ ∧ (_ → kbX8_judge_L37 Q (kX8_judge_L37 Q n) _ _ _ _ _ _ _ _)
    unfold bX8_judge_L37 kbX8_judge_L37
    rw [hH.1]
    simp only [if_pos (nI_le (Nat.le_refl (fa_cnt P j)) (show fa_cnt P j < 2 ^ 31 by omega)), lt, nI_1, inS]
    exact ⟨trivial, fun h => h⟩
  | succ d ih =>
    intro j n h1 h2 h3 a
    have hj : j < M := by omega
    by_cases pj : P j = true
    · have cl := cnt_lt P hj pj
      have cy := fa_cnt_yes pj
      obtain ⟨n, rfl⟩ : ∃ p, n = p + 1 := ⟨n - 1, by omega⟩
      obtain ⟨g1, g2⟩ := gap_eq h hc hi hj pi pj hs
      show bX8_judge_L37 q (pX8_judge_L37 q n) _ _ _ _ _ _ _ _ = _ ∧ (_ → kbX8_judge_L37 Q (kX8_judge_L37 Q n) _ _ _ _ _ _ _ _)
      unfold bX8_judge_L37 kbX8_judge_L37 pX8_judge_L72 kX8_judge_L72
      rw [hH.1]
      simp only [if_neg (nI_ge cl (show fa_cnt P M < 2 ^ 31 by omega)), lt, g1, nI_1, inS, pj, if_true]
      have r := fun a => ih (j + 1) n (by omega) (by omega) (by omega) a
      rw [cy] at r
      by_cases v : S 13 < gpS S c i j
      · have es : st3 (S 13) (gpS S c i j) a = (a.1, a.2.1 + gpS S c i j, a.2.2 + 1) := by
          unfold st3
          simp only [v, decide_true, Bool.not_true, show bz false = 0 from rfl, Int32.add_zero]
        simp only [if_pos v]
        rw [es]
        exact ⟨(r (a.1, a.2.1 + gpS S c i j, a.2.2 + 1)).1, fun hq => ⟨g2, (r (a.1, a.2.1 + gpS S c i j, a.2.2 + 1)).2 hq⟩⟩
      · have es : st3 (S 13) (gpS S c i j) a = (a.1 + 1, a.2.1 + gpS S c i j, a.2.2 + 1) := by
          unfold st3
          simp only [v, decide_false, Bool.not_false, show bz true = 1 from rfl]
        simp only [if_neg v]
        rw [es]
        exact ⟨(r (a.1 + 1, a.2.1 + gpS S c i j, a.2.2 + 1)).1, fun hq => ⟨g2, (r (a.1 + 1, a.2.1 + gpS S c i j, a.2.2 + 1)).2 hq⟩⟩
    · have cn := fa_cnt_no (p := P) (n := j) (by simpa using pj)
      have r := ih (j + 1) n (by omega) (by omega) (by omega) a
      rw [cn] at r
      simp only [inS, if_neg pj]
      exact r
theorem co_L (h : BR C R M W N b S) {P : Nat → Bool} {c : Nat} (hc : c < C * R) {s : SS} (hH : HR P M s) (hs : startR S P M c s) : ∀ (d i n : Nat), M - i = d → i ≤ M → fa_cnt P M - fa_cnt P i < n → ∀ a : A3,
    pX8_judge_L22 n (nI c) (S 13) a.1 a.2.1 (nI (fa_cnt P i)) s b = (ssa (ssa s 0 (upd (s.2 0) c (outS P (gpS S c) (S 13) M d i a).1)) 1 (upd (s.2 1) c (outS P (gpS S c) (S 13) M d i a).2.1), b) ∧ kX8_judge_L22 n (nI c) (S 13) a.1 a.2.1 (nI (fa_cnt P i)) s b := by
  have hl := h.le
  have hCR : C * R ≤ 20 * 20 := Nat.mul_le_mul (by omega) (by omega)
  have cM := fa_cnt_le P M
  intro d
  induction d with
  | zero =>
    intro i n h1 h2 h3 a
    have e : i = M := by omega
    subst e
    obtain ⟨n, rfl⟩ : ∃ p, n = p + 1 := ⟨n - 1, by omega⟩
    show bX8_judge_L22 (pX8_judge_L22 n) _ _ _ _ _ _ _ = _ ∧ kbX8_judge_L22 (kX8_judge_L22 n) _ _ _ _ _ _ _
    unfold bX8_judge_L22 kbX8_judge_L22
    rw [hH.1]
    simp only [if_pos (nI_le (Nat.le_refl (fa_cnt P i)) (show fa_cnt P i < 2 ^ 31 by omega)), lt, nI_clamp (show c < 2 ^ 31 by omega), outS, ssa_2, updA_ne (j := 1) (k := 0) _ _ (by decide)]
    exact ⟨trivial, vp_in_n (by omega) (by omega), vp_in_n (by omega) (by omega)⟩
  | succ d ih =>
    intro i n h1 h2 h3 a
    have hi : i < M := by omega
    by_cases pi : P i = true
    · have cl := cnt_lt P hi pi
      have cy := fa_cnt_yes pi
      have cm := cnt_mono P (show i + 1 ≤ M from hi)
      obtain ⟨n, rfl⟩ : ∃ p, n = p + 1 := ⟨n - 1, by omega⟩
      show bX8_judge_L22 (pX8_judge_L22 n) _ _ _ _ _ _ _ = _ ∧ kbX8_judge_L22 (kX8_judge_L22 n) _ _ _ _ _ _ _
      unfold bX8_judge_L22 kbX8_judge_L22
      rw [hH.1]
      simp only [if_neg (nI_ge cl (show fa_cnt P M < 2 ^ 31 by omega)), lt, nI_1, outS, pi, if_true]
      obtain ⟨r1, r2⟩ := ci_L h hc hi pi hH hs (pX8_judge_L22 n) (kX8_judge_L22 n) (M - (i + 1)) (i + 1) fu rfl (by omega) (by have := fu_ge; omega) a
      rw [cy] at r1 r2
      have q := ih (i + 1) n (by omega) (by omega) (by omega) (inS P (gpS S c i) (S 13) (M - (i + 1)) (i + 1) a)
      rw [cy] at q
      rw [r1]
      exact ⟨q.1, r2 q.2⟩
    · have cn := fa_cnt_no (p := P) (n := i) (by simpa using pi)
      have r := ih (i + 1) n (by omega) (by omega) (by omega) a
      rw [cn] at r
      simp only [outS, if_neg pi]
      exact r
theorem tr_L (h : BR C R M W N b S) {P : Nat → Bool} {c : Nat} (hc : c < C * R) (hPh : ∀ i, i < M → P i = true → hasP S i = true) : ∀ (n k : Nat), k ≤ fa_cnt P M → fa_cnt P M - k < n → ∀ s : SS, HR P M s → ∃ F, pX8_traceStarts_L2 n (nI c) (nI k) s b = (ssa s 3 F, b) ∧ kX8_traceStarts_L2 n (nI c) (nI k) s b ∧ (∀ i, i < M → P i = true → k ≤ fa_cnt P i → F (fa_cnt P i) = nt S i - tf S c i) ∧ (∀ q, q < k → F q = s.2 3 q) := by
  have hl := h.le
  have cM := fa_cnt_le P M
  intro n
  induction n with
  | zero => intro k h1 h2; omega
  | succ n ih =>
    intro k h1 h2 s hH
    show ∃ F, bX8_traceStarts_L2 (pX8_traceStarts_L2 n) _ _ _ _ = _ ∧ kbX8_traceStarts_L2 (kX8_traceStarts_L2 n) _ _ _ _ ∧ _
    unfold bX8_traceStarts_L2 kbX8_traceStarts_L2
    rw [hH.1]
    by_cases e : k = fa_cnt P M
    · rw [e]
      simp only [if_pos (nI_le (Nat.le_refl (fa_cnt P M)) (show fa_cnt P M < 2 ^ 31 by omega))]
      refine ⟨s.2 3, by rw [ssa_id], trivial, fun i hi pi hk => ?_, fun q hq => rfl⟩
      have := cnt_lt P hi pi
      omega
    · have hk : k < fa_cnt P M := by omega
      obtain ⟨i, hi, pi, ek⟩ := cnt_surj P M hk
      have e2 : s.2 2 k = nI i := by rw [← ek]; exact hH.2 i hi pi
      obtain ⟨T, T1, T2, T3, T4, T5⟩ := tf_eq h hc hi
      obtain ⟨a1, a2⟩ := at9 (k := 4) (kk := 4) h rfl hi (by omega)
      have h4 : S (14 + 10 * i + 4) = 1 := by
        have := hPh i hi pi
        unfold hasP at this
        exact of_decide_eq_true this
      rw [((h.mR hi).2.1 h4).1] at a1
      simp only [if_neg (nI_ge hk (show fa_cnt P M < 2 ^ 31 by omega)), lt, nI_clamp (show k < 2 ^ 31 by omega), e2, a1, T3, nI_1]
      obtain ⟨F, f1, f2, f3, f4⟩ := ih (k + 1) (by omega) (by omega) (ssa s 3 (upd (s.2 3) k (S (14 + 10 * i + 5) - tf S c i))) ⟨hH.1, hH.2⟩
      rw [ssa_ssa] at f1
      have f4 : ∀ q, q < k + 1 → F q = upd (s.2 3) k (S (14 + 10 * i + 5) - tf S c i) q := f4
      have V : vp_in (nI k) 8 := vp_in_n (by omega) (by omega)
      refine ⟨F, f1, ⟨V, a2, T4, V, f2⟩, fun i' hi' pi' hk' => ?_, fun q hq => ?_⟩
      · by_cases ee : fa_cnt P i' = k
        · have : i' = i := by
            rcases Nat.lt_trichotomy i' i with l | l | l
            · have := cnt_mono P (show i' + 1 ≤ i from l)
              have := fa_cnt_yes pi'
              omega
            · exact l
            · have := cnt_mono P (show i + 1 ≤ i' from l)
              have := fa_cnt_yes pi
              omega
          subst this
          rw [ee, f4 k (by omega), upd_eq]
          rfl
        · exact f3 i' hi' pi' (by omega)
      · rw [f4 q (by omega), upd_ne _ _ (by omega)]
theorem trace_eq (h : BR C R M W N b S) {P : Nat → Bool} {c : Nat} (hc : c < C * R) (hPh : ∀ i, i < M → P i = true → hasP S i = true) {s : SS} (hH : HR P M s) : ∃ F, pX8_traceStarts s b (nI c) = (ssa s 3 F, b) ∧ kX8_traceStarts s b (nI c) ∧ startR S P M c (ssa s 3 F) := by
  obtain ⟨F, f1, f2, f3, f4⟩ := tr_L h hc hPh fu 0 (by omega) (by have := fu_ge; have := fa_cnt_le P M; have := h.le; omega) s hH
  exact ⟨F, f1, f2, fun i hi pi => f3 i hi pi (by omega)⟩
theorem judge_eq (h : BR C R M W N b S) {P : Nat → Bool} {c : Nat} (hc : c < C * R) (hPh : ∀ i, i < M → P i = true → hasP S i = true) {s : SS} (hH : HR P M s) : ∃ F, pX8_judge s b (nI c) = (ssa (ssa (ssa s 3 F) 0 (upd (s.2 0) c (VE S P M c).1)) 1 (upd (s.2 1) c (VE S P M c).2.1), b) ∧ kX8_judge s b (nI c) := by
  obtain ⟨F, f1, f2, f3⟩ := trace_eq h hc hPh hH
  obtain ⟨s1, s2⟩ := setting_eq (i := 6) (ii := 6) h rfl (by omega)
  have s1 : pX2_setting b 6 = S 13 := s1
  have q := co_L h hc (s := ssa s 3 F) ⟨hH.1, hH.2⟩ f3 M 0 fu (by omega) (by omega) (by have := fu_ge; have := fa_cnt_le P M; have := h.le; omega) (0, 0, 0)
  unfold pX8_judge kX8_judge
  simp only [lt, f1, s1]
  exact ⟨F, q.1, f2, s2, q.2⟩
end JUDGE
