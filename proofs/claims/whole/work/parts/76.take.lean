/-! PURE: a survey taken, a cell found -/
section TAKE
variable {C R M W N : Nat} {b b' : BS} {S S' : Nat → Int32} {m : MS}
def tri (r : Nat) : Nat := r * (r - 1) / 2
theorem tri_s (r : Nat) : tri (r + 1) = tri r + r := by
  unfold tri
  have h2 : (r + 1) * (r + 1 - 1) = r * (r - 1) + r * 2 := by
    cases r with
    | zero => rfl
    | succ r =>
      show (r + 1 + 1) * (r + 1) = (r + 1) * r + (r + 1) * 2
      rw [← Nat.mul_add, Nat.mul_comm (r + 1 + 1)]
  rw [h2, Nat.add_mul_div_right _ _ (by omega)]
theorem inS_3 (P : Nat → Bool) (g : Nat → Int32) (tol : Int32) : ∀ (d j : Nat) (a : A3), (inS P g tol d j a).2.2 = a.2.2 + nI (fa_cnt P (j + d) - fa_cnt P j) := by
  intro d
  induction d with
  | zero => intro j a; rw [Nat.add_zero, Nat.sub_self, show nI 0 = 0 from rfl, Int32.add_zero]; rfl
  | succ d ih =>
    intro j a
    show (inS P g tol d (j + 1) _).2.2 = _
    rw [ih, show j + 1 + d = j + (d + 1) by omega]
    have cm := cnt_mono P (show j + 1 ≤ j + (d + 1) by omega)
    by_cases h : P j = true
    · rw [if_pos h]
      rw [fa_cnt_yes h] at cm ⊢
      show a.2.2 + 1 + _ = _
      rw [Int32.add_assoc, show (1 : Int32) = nI 1 from rfl, nI_add]
      congr 2
      omega
    · rw [if_neg h, fa_cnt_no (by simpa using h)]
theorem outS_3 (P : Nat → Bool) (G : Nat → Nat → Int32) (tol : Int32) (M : Nat) : ∀ (d i : Nat) (a : A3), i + d = M → (outS P G tol M d i a).2.2 = a.2.2 + nI (tri (fa_cnt P M - fa_cnt P i)) := by
  intro d
  induction d with
  | zero => intro i a h; rw [show i = M by omega, Nat.sub_self, show nI (tri 0) = 0 from rfl, Int32.add_zero]; rfl
  | succ d ih =>
    intro i a h
    show (outS P G tol M d (i + 1) _).2.2 = _
    rw [ih _ _ (by omega)]
    have cm := cnt_mono P (show i + 1 ≤ M by omega)
    by_cases h2 : P i = true
    · rw [if_pos h2, inS_3, show i + 1 + (M - (i + 1)) = M by omega]
      rw [fa_cnt_yes h2] at cm ⊢
      rw [show fa_cnt P M - fa_cnt P i = fa_cnt P M - (fa_cnt P i + 1) + 1 by omega, tri_s, Int32.add_assoc, nI_add, Nat.add_comm (tri _)]
    · rw [if_neg h2, fa_cnt_no (by simpa using h2)]
theorem VE_3 (S : Nat → Int32) (P : Nat → Bool) (M c : Nat) : (VE S P M c).2.2 = nI (tri (fa_cnt P M)) := by
  unfold VE
  rw [outS_3 _ _ _ _ _ _ _ (by omega)]
  show (0 : Int32) + _ = _
  rw [Int32.zero_add]
  rfl
theorem tri_b {K : Nat} (h : K ≤ 8) : tri K ≤ 28 := by
  have hc : K = 0 ∨ K = 1 ∨ K = 2 ∨ K = 3 ∨ K = 4 ∨ K = 5 ∨ K = 6 ∨ K = 7 ∨ K = 8 := by omega
  rcases hc with rfl | rfl | rfl | rfl | rfl | rfl | rfl | rfl | rfl <;> decide
theorem pairCount_eq {s : SS} {K : Nat} (h : s.1 0 = nI K) (hK : K ≤ 8) : pX8_pairCount s = nI (tri K) := by
  unfold pX8_pairCount tri
  rw [h]
  cases K with
  | zero => decide +kernel
  | succ K =>
    rw [nI_pred, pk_mul]
    have : (K + 1) * K ≤ 8 * 8 := Nat.mul_le_mul (by omega) (by omega)
    exact pk_div (d := 2) (by omega) (by omega) (by omega)
theorem ga_L (h : BR C R M W N b S) {P : Nat → Bool} : ∀ (n i : Nat), i ≤ M → M - i < n → ∀ s : SS, (∀ j, j < M → P j = (hasP S j && decide (nI j ≠ s.1 4))) → s.1 0 = nI (fa_cnt P i) → (∀ j, j < i → P j = true → s.2 2 (fa_cnt P j) = nI j) → ∃ s', pX8_gatherHearers_L20 n (nI M) (nI i) s b = (s', b) ∧ kX8_gatherHearers_L20 n (nI M) (nI i) s b ∧ HR P M s' ∧ s'.1 3 = s.1 3 ∧ s'.1 4 = s.1 4 := by
  have hl := h.le
  intro n
  induction n with
  | zero => intro j h1 h2; omega
  | succ n ih =>
    intro i h1 h2 s hP h0 hr
    show ∃ s', bX8_gatherHearers_L20 (pX8_gatherHearers_L20 n) _ _ _ _ = _ ∧ kbX8_gatherHearers_L20 (kX8_gatherHearers_L20 n) _ _ _ _ ∧ _
    unfold bX8_gatherHearers_L20 kbX8_gatherHearers_L20 pX8_gatherHearers_L61 kX8_gatherHearers_L61
    by_cases e : i = M
    · subst e
      simp only [if_pos (nI_le (Nat.le_refl i) (show i < 2 ^ 31 by omega))]
      exact ⟨s, rfl, trivial, ⟨h0, hr⟩, rfl, rfl⟩
    · have hi : i < M := by omega
      obtain ⟨n1, n2⟩ := hasNoted_eq h hi
      have ci := fa_cnt_le P i
      simp only [if_neg (nI_ge hi (show M < 2 ^ 31 by omega)), lt, nI_1, n1]
      by_cases ew : nI i = s.1 4
      · have pf : P i = false := by rw [hP i hi]; simp [ew]
        simp only [if_pos ew]
        have cn := fa_cnt_no pf
        exact ih (i + 1) (by omega) (by omega) s hP (by rw [cn]; exact h0) (fun j hj pj => by
          by_cases ej : j = i
          · rw [ej, pf] at pj; exact absurd pj (by decide)
          · exact hr j (by omega) pj)
      · simp only [if_neg ew]
        by_cases hh : hasP S i = true
        · have pt : P i = true := by rw [hP i hi]; simp [hh, ew]
          have cy := fa_cnt_yes pt
          simp only [if_pos hh, h0, nI_clamp (show fa_cnt P i < 2 ^ 31 by omega), ssa_1, nI_1]
          obtain ⟨s', a1, a2, a3, a4, a5⟩ := ih (i + 1) (by omega) (by omega) (ssi (ssa s 2 (upd (s.2 2) (fa_cnt P i) (nI i))) 0 (nI (fa_cnt P i + 1))) hP (by rw [cy]; rfl) (fun j hj pj => by
            show upd (s.2 2) (fa_cnt P i) (nI i) (fa_cnt P j) = _
            by_cases ej : j = i
            · rw [ej, upd_eq]
            · have := cnt_lt P (show j < i by omega) pj
              rw [upd_ne _ _ (by omega)]
              exact hr j (by omega) pj)
          exact ⟨s', a1, ⟨n2, vp_in_n (by omega) (by omega), a2⟩, a3, a4, a5⟩
        · have pf : P i = false := by rw [hP i hi]; simp [hh]
          have cn := fa_cnt_no pf
          simp only [if_neg hh]
          obtain ⟨s', a1, a2, a3⟩ := ih (i + 1) (by omega) (by omega) s hP (by rw [cn]; exact h0) (fun j hj pj => by
            by_cases ej : j = i
            · rw [ej, pf] at pj; exact absurd pj (by decide)
            · exact hr j (by omega) pj)
          exact ⟨s', a1, ⟨n2, a2⟩, a3⟩
theorem gather_eq (h : BR C R M W N b S) {P : Nat → Bool} (s : SS) (hP : ∀ j, j < M → P j = (hasP S j && decide (nI j ≠ s.1 4))) : ∃ s', pX8_gatherHearers s b = (s', b) ∧ kX8_gatherHearers s b ∧ HR P M s' ∧ s'.1 3 = s.1 3 ∧ s'.1 4 = s.1 4 := by
  have hl := h.le
  have em : jmin (nI M) 8 = nI M := by
    apply Int32.toInt_inj.mp
    rw [jmin_ti, nI_toInt (by omega), show ((8 : Int32)).toInt = 8 from rfl]
    omega
  unfold pX8_gatherHearers kX8_gatherHearers
  simp only [lt]
  rw [h.b4, em]
  exact ga_L h fu 0 (by omega) (by have := fu_ge; omega) (ssi s 0 0) hP rfl (fun j hj => by omega)
/-- the best of the cells -/
def betterS (v e : Nat → Int32) (c q : Nat) : Bool := !decide (v c ≤ v q) || (decide (v c = v q) && !decide (e q ≤ e c))
def bestS (v e : Nat → Int32) : Nat → Nat → Nat → Nat
  | 0 => fun _ q => q
  | d + 1 => fun c q => bestS v e d (c + 1) (if betterS v e c q = true then c else q)
theorem bestS_lt (v e : Nat → Int32) : ∀ (d c q n : Nat), c + d ≤ n → q < n → bestS v e d c q < n := by
  intro d
  induction d with
  | zero => intro c q n h1 h2; exact h2
  | succ d ih =>
    intro c q n h1 h2
    show bestS v e d (c + 1) _ < n
    refine ih (c + 1) _ n (by omega) ?_
    split <;> omega
theorem bestS_cong {v e v' e' : Nat → Int32} {n : Nat} (hv : ∀ c, c < n → v c = v' c) (he : ∀ c, c < n → e c = e' c) : ∀ (d c q : Nat), c + d ≤ n → q < n → bestS v e d c q = bestS v' e' d c q := by
  intro d
  induction d with
  | zero => intro c q h1 h2; rfl
  | succ d ih =>
    intro c q h1 h2
    show bestS v e d (c + 1) _ = bestS v' e' d (c + 1) _
    have eb : betterS v e c q = betterS v' e' c q := by
      unfold betterS
      rw [hv c (by omega), hv q h2, he c (by omega), he q h2]
    rw [eb]
    refine ih (c + 1) _ (by omega) ?_
    split <;> omega
theorem c107_L {n' q : Nat} (hn : n' ≤ 400) (hq : q < n') (s : SS) : ∀ (n c : Nat), c ≤ n' → n' - c < n → pX8_choose_L107 n (nI n') (nI q) (nI c) (ssi s 2 (nI (fa_cnt (fun c => decide (s.2 0 c = s.2 0 q)) c))) = ssi (ssi s 2 (nI (fa_cnt (fun c => decide (s.2 0 c = s.2 0 q)) n'))) 1 (nI q) ∧ kX8_choose_L107 n (nI n') (nI q) (nI c) (ssi s 2 (nI (fa_cnt (fun c => decide (s.2 0 c = s.2 0 q)) c))) := by
  intro n
  induction n with
  | zero => intro j h1 h2; omega
  | succ n ih =>
    intro c h1 h2
    show bX8_choose_L107 (pX8_choose_L107 n) _ _ _ _ = _ ∧ kbX8_choose_L107 (kX8_choose_L107 n) _ _ _ _
    unfold bX8_choose_L107 kbX8_choose_L107 pX8_choose_L137 kX8_choose_L137
    by_cases e : c = n'
    · subst e
      simp only [if_pos (nI_le (Nat.le_refl c) (show c < 2 ^ 31 by omega)), lt]
      exact ⟨trivial, trivial⟩
    · have hc : c < n' := by omega
      have V : ∀ x, x < n' → vp_in (nI x) 400 := fun x hx => vp_in_n (by omega) (by omega)
      simp only [if_neg (nI_ge hc (show n' < 2 ^ 31 by omega)), lt, nI_1, nI_clamp (show c < 2 ^ 31 by omega), nI_clamp (show q < 2 ^ 31 by omega), ssi_2]
      have r := ih (c + 1) (by omega) (by omega)
      by_cases hv : s.2 0 c = s.2 0 q
      · rw [fa_cnt_yes (by simp [hv])] at r
        simp only [if_pos hv, ssi_1, upd_eq, nI_1]
        rw [show ssi (ssi s 2 (nI (fa_cnt (fun c => decide (s.2 0 c = s.2 0 q)) c))) 2 (nI (fa_cnt (fun c => decide (s.2 0 c = s.2 0 q)) c + 1)) = ssi s 2 (nI (fa_cnt (fun c => decide (s.2 0 c = s.2 0 q)) c + 1)) by unfold ssi; rw [upd_upd]]
        exact ⟨r.1, V c hc, V q hq, r.2⟩
      · rw [fa_cnt_no (by simp [hv])] at r
        simp only [if_neg hv]
        exact ⟨r.1, V c hc, V q hq, r.2⟩
theorem c23_L {n' : Nat} (hn : n' ≤ 400) (s : SS) : ∀ (d n c q : Nat), c + d = n' → d < n → q < n' → ∃ q', q' = bestS (s.2 0) (s.2 1) d c q ∧ pX8_choose_L23 n (nI n') (nI q) (nI c) (ssi s 2 0) = ssi (ssi s 2 (nI (fa_cnt (fun c => decide (s.2 0 c = s.2 0 q')) n'))) 1 (nI q') ∧ kX8_choose_L23 n (nI n') (nI q) (nI c) (ssi s 2 0) := by
  intro d
  induction d with
  | zero =>
    intro n c q h1 h2 h3
    obtain ⟨n, rfl⟩ : ∃ p, n = p + 1 := ⟨n - 1, by omega⟩
    have e : c = n' := by omega
    subst e
    show ∃ q', _ ∧ bX8_choose_L23 (pX8_choose_L23 n) _ _ _ _ = _ ∧ kbX8_choose_L23 (kX8_choose_L23 n) _ _ _ _
    unfold bX8_choose_L23 kbX8_choose_L23
    simp only [if_pos (nI_le (Nat.le_refl c) (show c < 2 ^ 31 by omega))]
    have r := c107_L hn h3 s fu 0 (by omega) (by have := fu_ge; omega)
    exact ⟨q, rfl, r.1, r.2⟩
  | succ d ih =>
    intro n c q h1 h2 h3
    obtain ⟨n, rfl⟩ : ∃ p, n = p + 1 := ⟨n - 1, by omega⟩
    have hc : c < n' := by omega
    have V : ∀ x, x < n' → vp_in (nI x) 400 := fun x hx => vp_in_n (by omega) (by omega)
    show ∃ q', _ ∧ bX8_choose_L23 (pX8_choose_L23 n) _ _ _ _ = _ ∧ kbX8_choose_L23 (kX8_choose_L23 n) _ _ _ _
    unfold bX8_choose_L23 kbX8_choose_L23 pX8_choose_L48 kX8_choose_L48 pX8_choose_L84 kX8_choose_L84 pX8_choose_L85 kX8_choose_L85 pX8_choose_L97 kX8_choose_L97 pX8_choose_L99 kX8_choose_L99
    simp only [if_neg (nI_ge hc (show n' < 2 ^ 31 by omega)), lt, nI_1, nI_clamp (show c < 2 ^ 31 by omega), nI_clamp (show q < 2 ^ 31 by omega), ssi_2, Bool.false_eq_true, if_false, if_true, ite_self]
    show ∃ q', q' = bestS (s.2 0) (s.2 1) d (c + 1) (if betterS (s.2 0) (s.2 1) c q = true then c else q) ∧ _
    by_cases v1 : s.2 0 c ≤ s.2 0 q
    · by_cases v2 : s.2 0 c = s.2 0 q
      · by_cases v3 : s.2 1 q ≤ s.2 1 c
        · have eb : betterS (s.2 0) (s.2 1) c q = false := by unfold betterS; simp [v2, v3]
          simp only [if_pos v1, if_pos v2, if_pos v3, eb, Bool.false_eq_true, if_false]
          obtain ⟨q', r1, r2, r3⟩ := ih n (c + 1) q (by omega) (by omega) h3
          exact ⟨q', r1, r2, V c hc, V q h3, V c hc, V q h3, V c hc, V q h3, r3⟩
        · have eb : betterS (s.2 0) (s.2 1) c q = true := by unfold betterS; simp [v2, v3]
          simp only [if_pos v1, if_pos v2, if_neg v3, eb, if_true]
          obtain ⟨q', r1, r2, r3⟩ := ih n (c + 1) c (by omega) (by omega) hc
          exact ⟨q', r1, r2, V c hc, V q h3, V c hc, V q h3, V c hc, V q h3, r3⟩
      · have eb : betterS (s.2 0) (s.2 1) c q = false := by unfold betterS; simp [v1, v2]
        simp only [if_pos v1, if_neg v2, eb, Bool.false_eq_true, if_false]
        obtain ⟨q', r1, r2, r3⟩ := ih n (c + 1) q (by omega) (by omega) h3
        exact ⟨q', r1, r2, V c hc, V q h3, V c hc, V q h3, r3⟩
    · have v2 : ¬ s.2 0 c = s.2 0 q := fun e => v1 (by rw [e, fa_le]; exact Int.le_refl _)
      have eb : betterS (s.2 0) (s.2 1) c q = true := by unfold betterS; simp [v1]
      simp only [if_neg v1, if_neg v2, eb, if_true]
      obtain ⟨q', r1, r2, r3⟩ := ih n (c + 1) c (by omega) (by omega) hc
      exact ⟨q', r1, r2, V c hc, V q h3, V c hc, V q h3, r3⟩
noncomputable def vS (S : Nat → Int32) (P : Nat → Bool) (M : Nat) : Nat → Int32 := fun c => (VE S P M c).1
noncomputable def eS (S : Nat → Int32) (P : Nat → Bool) (M : Nat) : Nat → Int32 := fun c => (VE S P M c).2.1
noncomputable def bestQ (S : Nat → Int32) (P : Nat → Bool) (M n' : Nat) : Nat := bestS (vS S P M) (eS S P M) (n' - 1) 1 0
noncomputable def tiedQ (S : Nat → Int32) (P : Nat → Bool) (M n' : Nat) : Nat := fa_cnt (fun c => decide (vS S P M c = vS S P M (bestQ S P M n'))) n'
/-- what a survey holds -/
def SV (S : Nat → Int32) (P : Nat → Bool) (M n' : Nat) (s : SS) : Prop := HR P M s ∧ (∀ c, c < n' → s.2 0 c = vS S P M c ∧ s.2 1 c = eS S P M c) ∧ (tri (fa_cnt P M) = 0 → s.1 1 = -1000000000 ∧ s.1 2 = 0) ∧ (tri (fa_cnt P M) ≠ 0 → s.1 1 = nI (bestQ S P M n') ∧ s.1 2 = nI (tiedQ S P M n'))
theorem choose_eq {P : Nat → Bool} {n' : Nat} (hM : M ≤ 8) (hn : n' ≤ 400) (hn0 : 0 < n') {s : SS} (hH : HR P M s) (hv : ∀ c, c < n' → s.2 0 c = vS S P M c ∧ s.2 1 c = eS S P M c) : SV S P M n' (pX8_choose s (nI n')) ∧ kX8_choose s (nI n') ∧ (pX8_choose s (nI n')).1 3 = s.1 3 ∧ (pX8_choose s (nI n')).1 4 = s.1 4 := by
  have cM := fa_cnt_le P M
  have pc := pairCount_eq (s := ssi (ssi s 1 (-1000000000)) 2 0) (K := fa_cnt P M) hH.1 (by omega)
  have tb := tri_b (K := fa_cnt P M) (by omega)
  unfold pX8_choose kX8_choose
  simp only [lt]
  rw [pc]
  by_cases e : tri (fa_cnt P M) = 0
  · rw [e, if_pos (show nI 0 = 0 from rfl), if_pos (show nI 0 = 0 from rfl)]
    exact ⟨⟨⟨hH.1, hH.2⟩, hv, fun _ => ⟨rfl, rfl⟩, fun h => absurd e h⟩, trivial, rfl, rfl⟩
  · rw [if_neg (nI_ne0 (by omega) (by omega)), if_neg (nI_ne0 (by omega) (by omega))]
    obtain ⟨q', r1, r2, r3⟩ := c23_L hn (ssi s 1 (-1000000000)) (n' - 1) fu 1 0 (by omega) (by have := fu_ge; omega) hn0
    have r1 : q' = bestS (s.2 0) (s.2 1) (n' - 1) 1 0 := r1
    have e1 : q' = bestQ S P M n' := r1.trans (bestS_cong (fun c hc => (hv c hc).1) (fun c hc => (hv c hc).2) _ _ _ (by omega) hn0)
    have hq : q' < n' := by rw [r1]; exact bestS_lt _ _ _ _ _ _ (by omega) hn0
    have e2 : fa_cnt (fun c => decide (s.2 0 c = s.2 0 q')) n' = tiedQ S P M n' := by
      unfold tiedQ
      rw [← e1]
      exact fa_cnt_cong (fun k hk => by rw [(hv k hk).1, (hv q' hq).1])
    rw [show (0 : Int32) = nI 0 from rfl, show (1 : Int32) = nI 1 from rfl] at *
    rw [r2]
    refine ⟨⟨⟨hH.1, hH.2⟩, hv, fun h => absurd h e, fun _ => ⟨?_, ?_⟩⟩, r3, rfl, rfl⟩
    · rw [← e1]; rfl
    · rw [← e2]; rfl
theorem t45_L (h : BR C R M W N b S) {P : Nat → Bool} (hPh : ∀ i, i < M → P i = true → hasP S i = true) : ∀ (n c : Nat), c ≤ C * R → C * R - c < n → ∀ s : SS, HR P M s → (∀ c', c' < c → s.2 0 c' = vS S P M c' ∧ s.2 1 c' = eS S P M c') → ∃ s', pX8_take_L45 n (nI (C * R)) (nI c) s b = (s', b) ∧ kX8_take_L45 n (nI (C * R)) (nI c) s b ∧ SV S P M (C * R) s' ∧ s'.1 3 = s.1 3 ∧ s'.1 4 = s.1 4 := by
  have hl := h.le
  have hCR : C * R ≤ 20 * 20 := Nat.mul_le_mul (by omega) (by omega)
  have hCR0 : 2 * 2 ≤ C * R := Nat.mul_le_mul (by omega) (by omega)
  intro n
  induction n with
  | zero => intro j h1 h2; omega
  | succ n ih =>
    intro c h1 h2 s hH hv
    show ∃ s', bX8_take_L45 (pX8_take_L45 n) _ _ _ _ = _ ∧ kbX8_take_L45 (kX8_take_L45 n) _ _ _ _ ∧ _
    unfold bX8_take_L45 kbX8_take_L45
    by_cases e : c = C * R
    · rw [e] at hv ⊢
      simp only [if_pos (nI_le (Nat.le_refl (C * R)) (show C * R < 2 ^ 31 by omega)), lt]
      obtain ⟨r1, r2, r3⟩ := choose_eq hl.2.2.1 (by omega) (by omega) hH hv
      exact ⟨_, rfl, r2, r1, r3⟩
    · have hc : c < C * R := by omega
      obtain ⟨F, j1, j2⟩ := judge_eq h hc hPh hH
      simp only [if_neg (nI_ge hc (show C * R < 2 ^ 31 by omega)), lt, j1, nI_1]
      obtain ⟨s', a1, a2, a3, a4, a5⟩ := ih (c + 1) (by omega) (by omega) (ssa (ssa (ssa s 3 F) 0 (upd (s.2 0) c (VE S P M c).1)) 1 (upd (s.2 1) c (VE S P M c).2.1)) ⟨hH.1, hH.2⟩ (fun c' hc' => by
        show upd (s.2 0) c _ c' = _ ∧ upd (s.2 1) c _ c' = _
        by_cases ec : c' = c
        · rw [ec, upd_eq, upd_eq]; exact ⟨rfl, rfl⟩
        · rw [upd_ne _ _ ec, upd_ne _ _ ec]; exact hv c' (by omega))
      exact ⟨s', a1, ⟨j2, a2⟩, a3, a4, a5⟩
/-- a survey that is fresh is that of the bench -/
def VR (S : Nat → Int32) (M n' : Nat) (s : SS) : Prop := s.1 3 = 0 ∨ ∃ P : Nat → Bool, (∀ j, j < M → P j = (hasP S j && decide (nI j ≠ s.1 4))) ∧ SV S P M n' s
theorem SV_cong {P Q : Nat → Bool} {n' : Nat} {s : SS} (h : SV S P M n' s) (e : ∀ j, j < M → P j = Q j) : ∃ P' : Nat → Bool, P' = P ∧ SV S P' M n' s := ⟨P, rfl, h⟩
theorem take_eq (h : BR C R M W N b S) {s : SS} (hV : VR S M (C * R) s) (wo : Int32) : ∃ (s' : SS) (P : Nat → Bool), pX8_take s b wo = (s', b) ∧ kX8_take s b wo ∧ s'.1 4 = wo ∧ (∀ j, j < M → P j = (hasP S j && decide (nI j ≠ wo))) ∧ SV S P M (C * R) s' ∧ VR S M (C * R) s' := by
  have hl := h.le
  have hCR : C * R ≤ 20 * 20 := Nat.mul_le_mul (by omega) (by omega)
  have em : jmin (nI (C * R)) 400 = nI (C * R) := by
    apply Int32.toInt_inj.mp
    rw [jmin_ti, nI_toInt (by omega), show ((400 : Int32)).toInt = 400 from rfl]
    omega
  have L : ∃ (s' : SS) (P : Nat → Bool), pX8_take_L16 wo s b = (s', b) ∧ kX8_take_L16 wo s b ∧ s'.1 4 = wo ∧ (∀ j, j < M → P j = (hasP S j && decide (nI j ≠ wo))) ∧ SV S P M (C * R) s' ∧ VR S M (C * R) s' := by
    obtain ⟨s1, g1, g2, g3, g4, g5⟩ := gather_eq h (P := fun j => hasP S j && decide (nI j ≠ wo)) (ssi (ssi s 4 wo) 3 1) (fun j hj => rfl)
    obtain ⟨s2, t1, t2, t3, t4, t5⟩ := t45_L h (P := fun j => hasP S j && decide (nI j ≠ wo)) (fun i hi pi => by
      simp only [Bool.and_eq_true] at pi
      exact pi.1) fu 0 (by omega) (by have := fu_ge; omega) s1 g3 (fun c hc => by omega)
    have e4 : s2.1 4 = wo := t5.trans (g5.trans rfl)
    unfold pX8_take_L16 kX8_take_L16 pX2_cellCount
    simp only [lt, g1]
    rw [h.b0, h.b1, pk_mul, em]
    exact ⟨s2, _, t1, ⟨g2, t2⟩, e4, fun j hj => rfl, t3, Or.inr ⟨_, fun j hj => by rw [e4], t3⟩⟩
  unfold pX8_take kX8_take
  by_cases e3 : s.1 3 = 0
  · rw [if_pos e3, if_pos e3]
    exact L
  · rw [if_neg e3, if_neg e3]
    by_cases e4 : s.1 4 = wo
    · rw [if_pos e4, if_pos e4]
      rcases hV with hV | ⟨P, p1, p2⟩
      · exact absurd hV e3
      · exact ⟨s, P, rfl, trivial, e4, fun j hj => by rw [p1 j hj, e4], p2, Or.inr ⟨P, p1, p2⟩⟩
    · rw [if_neg e4, if_neg e4]
      exact L
end TAKE
