/-! PURE: what is asked of a survey -/
section ASK
variable {C R M W N : Nat} {b b' : BS} {S S' : Nat → Int32} {m : MS}
theorem inS_cong {P Q : Nat → Bool} (g : Nat → Int32) (tol : Int32) {M : Nat} (e : ∀ j, j < M → P j = Q j) : ∀ (d j : Nat) (a : A3), j + d ≤ M → inS P g tol d j a = inS Q g tol d j a := by
  intro d
  induction d with
  | zero => intro j a h; rfl
  | succ d ih =>
    intro j a h
    show inS P g tol d (j + 1) _ = inS Q g tol d (j + 1) _
    rw [e j (by omega)]
    exact ih _ _ (by omega)
theorem outS_cong {P Q : Nat → Bool} (G : Nat → Nat → Int32) (tol : Int32) {M : Nat} (e : ∀ j, j < M → P j = Q j) : ∀ (d i : Nat) (a : A3), i + d ≤ M → outS P G tol M d i a = outS Q G tol M d i a := by
  intro d
  induction d with
  | zero => intro i a h; rfl
  | succ d ih =>
    intro i a h
    show outS P G tol M d (i + 1) _ = outS Q G tol M d (i + 1) _
    rw [e i (by omega), inS_cong _ _ e _ _ _ (by omega)]
    exact ih _ _ (by omega)
theorem VE_cong {P Q : Nat → Bool} (e : ∀ j, j < M → P j = Q j) (c : Nat) : VE S P M c = VE S Q M c := outS_cong _ _ e _ _ _ (by omega)
theorem SV.to {P Q : Nat → Bool} {n' : Nat} {s : SS} (h : SV S P M n' s) (e : ∀ j, j < M → P j = Q j) : SV S Q M n' s := by
  have ec : ∀ i, i ≤ M → fa_cnt P i = fa_cnt Q i := fun i hi => fa_cnt_cong (fun k hk => e k (by omega))
  have ev : vS S P M = vS S Q M := funext fun c => by unfold vS; rw [VE_cong e]
  have ee : eS S P M = eS S Q M := funext fun c => by unfold eS; rw [VE_cong e]
  have eb : bestQ S P M n' = bestQ S Q M n' := by unfold bestQ; rw [ev, ee]
  have et : tiedQ S P M n' = tiedQ S Q M n' := by unfold tiedQ; rw [ev, eb]
  obtain ⟨⟨h1, h2⟩, h3, h4, h5⟩ := h
  rw [ec M (by omega), ev, ee, eb, et] at *
  refine ⟨⟨h1, fun i hi qi => ?_⟩, h3, h4, h5⟩
  rw [← ec i (by omega)]
  exact h2 i hi (by rw [e i hi]; exact qi)
theorem SV_ssa3 {P : Nat → Bool} {n' : Nat} {s : SS} (h : SV S P M n' s) (F : Nat → Int32) : SV S P M n' (ssa s 3 F) := ⟨⟨h.1.1, h.1.2⟩, h.2.1, h.2.2.1, h.2.2.2⟩
theorem nobody (j : Nat) (hj : j < 2 ^ 31) : decide (nI j ≠ (-1 : Int32)) = true ∧ decide (nI j ≠ (-1000000000 : Int32)) = true := by
  refine ⟨decide_eq_true (fun e => ?_), decide_eq_true (nI_nNO hj)⟩
  have e2 := nI_toInt hj
  rw [e] at e2
  have e3 : ((-1 : Int32)).toInt = -1 := by decide
  omega
/-- a survey of all that have noted -/
theorem take_all (h : BR C R M W N b S) {s : SS} (hV : VR S M (C * R) s) : ∃ s' : SS, pX8_take s b (-1) = (s', b) ∧ kX8_take s b (-1) ∧ SV S (hasP S) M (C * R) s' ∧ VR S M (C * R) s' ∧ s'.1 4 = -1 := by
  have hl := h.le
  obtain ⟨s', P, a1, a2, a3, a4, a5, a6⟩ := take_eq h hV (-1)
  refine ⟨s', a1, a2, a5.to (fun j hj => ?_), a6, a3⟩
  rw [a4 j hj, (nobody j (by omega)).1, Bool.and_true]
theorem hasP_all {j : Nat} (hj : j < 2 ^ 31) : hasP S j = (hasP S j && decide (nI j ≠ (-1000000000 : Int32))) := by
  rw [(nobody j hj).2, Bool.and_true]
theorem find_all (h : BR C R M W N b (m.2.2 0)) : ∃ m', pX12_finds m (-1000000000) = (foundQ (m.2.2 0) (hasP (m.2.2 0)) M (C * R), m') ∧ kX12_finds m (-1000000000) ∧ FV (m.2.2 0) (hasP (m.2.2 0)) M (C * R) m' ∧ sameF m m' := by
  have hl := h.le
  exact finds_eq h (fun j hj => hasP_all (by omega))
theorem votesOf_eq {s : SS} {c : Nat} (hc : c < 400) : pX8_votesOf s (nI c) = s.2 0 c ∧ kX8_votesOf s (nI c) ∧ pX8_errorOf s (nI c) = s.2 1 c ∧ kX8_errorOf s (nI c) := by
  have hin : pX11_isBetween (nI c) 0 399 = true := by
    rw [in_eq, in_iff]
    unfold rg
    rw [nI_toInt (by omega)]
    exact ⟨show (0 : Int) ≤ c by omega, show (c : Int) ≤ 399 by omega⟩
  unfold pX8_votesOf kX8_votesOf pX8_errorOf kX8_errorOf
  rw [if_pos hin, if_pos hin, if_pos hin, nI_clamp (by omega)]
  exact ⟨rfl, vp_in_n hc (by omega), rfl, vp_in_n hc (by omega)⟩
theorem votesOf_no {s : SS} : pX8_votesOf s (-1000000000) = 0 ∧ kX8_votesOf s (-1000000000) := by
  have hin : ¬ pX11_isBetween (-1000000000) 0 399 = true := by
    rw [in_eq, in_iff]
    unfold rg
    intro hh
    exact absurd hh.1 (by decide)
  unfold pX8_votesOf kX8_votesOf
  rw [if_neg hin, if_neg hin]
  exact ⟨rfl, trivial⟩
theorem suspect_L (h : BR C R M W N b (m.2.2 0)) (hF : ∀ w, w < M → pX12_blameOf m (nI w) (foundQ (m.2.2 0) (hasP (m.2.2 0)) M (C * R)) = blameQ (m.2.2 0) (hasP (m.2.2 0)) M (C * R) w ∧ kX12_blameOf m (nI w) (foundQ (m.2.2 0) (hasP (m.2.2 0)) M (C * R))) : ∀ (n i : Nat), i ≤ M → M - i < n → ∀ (s : SS) (who most : Int32), SV (m.2.2 0) (hasP (m.2.2 0)) M (C * R) s → ∃ s' : SS, pX8_mostBlamed_L8 n who most (nI i) s b = (pX12_suspectBy_L8 m n (foundQ (m.2.2 0) (hasP (m.2.2 0)) M (C * R)) who most (nI i), s', b) ∧ kX8_mostBlamed_L8 n who most (nI i) s b ∧ kX12_suspectBy_L8 m n (foundQ (m.2.2 0) (hasP (m.2.2 0)) M (C * R)) who most (nI i) ∧ SV (m.2.2 0) (hasP (m.2.2 0)) M (C * R) s' ∧ s'.1 = s.1 ∧ s'.2 0 = s.2 0 ∧ s'.2 1 = s.2 1 := by
  have hl := h.le
  intro n
  induction n with
  | zero => intro i h1 h2; omega
  | succ n ih =>
    intro i h1 h2 s who most hV
    show ∃ s' : SS, bX8_mostBlamed_L8 (pX8_mostBlamed_L8 n) _ _ _ _ _ = (bX12_suspectBy_L8 m (pX12_suspectBy_L8 m n) _ _ _ _, s', b) ∧ kbX8_mostBlamed_L8 (kX8_mostBlamed_L8 n) _ _ _ _ _ ∧ kbX12_suspectBy_L8 m (kX12_suspectBy_L8 m n) _ _ _ _ ∧ _
    unfold bX8_mostBlamed_L8 kbX8_mostBlamed_L8 bX12_suspectBy_L8 kbX12_suspectBy_L8 pX8_mostBlamed_L41 kX8_mostBlamed_L41 pX12_suspectBy_L40 kX12_suspectBy_L40 pX12_suspectBy_L53 kX12_suspectBy_L53
    rw [h.b4, h.eM]
    by_cases e : i = M
    · rw [e]
      simp only [if_pos (nI_le (Nat.le_refl M) (show M < 2 ^ 31 by omega))]
      exact ⟨s, rfl, trivial, trivial, hV, rfl, rfl, rfl⟩
    · have hi : i < M := by omega
      obtain ⟨F, f1, f2⟩ := blame_c h (fun i _ hp => hp) hV hi
      obtain ⟨g1, g2⟩ := hF i hi
      obtain ⟨s1, hs1⟩ : ∃ s1, s1 = (if s.1 1 = -1000000000 then s else ssa s 3 F) := ⟨_, rfl⟩
      have hs : SV (m.2.2 0) (hasP (m.2.2 0)) M (C * R) s1 ∧ s1.1 = s.1 ∧ s1.2 0 = s.2 0 ∧ s1.2 1 = s.2 1 := by
        rw [hs1]
        split
        · exact ⟨hV, rfl, rfl, rfl⟩
        · exact ⟨SV_ssa3 hV F, rfl, rfl, rfl⟩
      rw [← hs1] at f1
      simp only [if_neg (nI_ge hi (show M < 2 ^ 31 by omega)), f1, g1, bd, lt, nI_1]
      by_cases v : blameQ (m.2.2 0) (hasP (m.2.2 0)) M (C * R) i ≤ most
      · simp only [if_pos v]
        obtain ⟨s', r1, r2, r3, r4, r5, r6, r7⟩ := ih (i + 1) (by omega) (by omega) s1 who most hs.1
        exact ⟨s', r1, ⟨f2, r2⟩, ⟨g2, r3⟩, r4, r5.trans hs.2.1, r6.trans hs.2.2.1, r7.trans hs.2.2.2⟩
      · simp only [if_neg v]
        obtain ⟨s', r1, r2, r3, r4, r5, r6, r7⟩ := ih (i + 1) (by omega) (by omega) s1 (nI i) (blameQ (m.2.2 0) (hasP (m.2.2 0)) M (C * R) i) hs.1
        exact ⟨s', r1, ⟨f2, r2⟩, ⟨g2, r3⟩, r4, r5.trans hs.2.1, r6.trans hs.2.2.1, r7.trans hs.2.2.2⟩
/-- the suspect, of a state in which the cell was found -/
theorem suspect_eq (h : BR C R M W N b (m.2.2 0)) {s : SS} (hV : SV (m.2.2 0) (hasP (m.2.2 0)) M (C * R) s) : ∃ s' : SS, pX8_mostBlamed s b = (pX12_suspectBy m (foundQ (m.2.2 0) (hasP (m.2.2 0)) M (C * R)), s', b) ∧ kX8_mostBlamed s b ∧ kX12_suspectBy m (foundQ (m.2.2 0) (hasP (m.2.2 0)) M (C * R)) ∧ SV (m.2.2 0) (hasP (m.2.2 0)) M (C * R) s' ∧ s'.1 = s.1 ∧ s'.2 0 = s.2 0 ∧ s'.2 1 = s.2 1 := by
  have hl := h.le
  exact suspect_L h (fun w hw => blame_m h (fun j hj => hasP_all (by omega)) hw) fu 0 (by omega) (by have := fu_ge; omega) s (-1000000000) 0 hV
/-- the sum of the tied cells' columns or rows -/
def smQ (p : Nat → Bool) (f : Nat → Nat) : Nat → Nat
  | 0 => 0
  | n + 1 => smQ p f n + if p n then f n else 0
theorem smQ_b (p : Nat → Bool) (f : Nat → Nat) (h : ∀ c, f c ≤ 400) : ∀ n, smQ p f n ≤ 400 * n
  | 0 => Nat.le_refl 0
  | n + 1 => by
    have := smQ_b p f h n
    have := h n
    show smQ p f n + _ ≤ _
    split <;> omega
def rcQ (C : Nat) (down : Bool) (c : Nat) : Nat := if down then c / C else c % C
theorem sum_c (h : BR C R M W N b S) {P : Nat → Bool} {s : SS} (hV : SV S P M (C * R) s) (e : tri (fa_cnt P M) ≠ 0) (down : Bool) : ∀ (n c : Nat), c ≤ C * R → C * R - c < n → pX8_sumOfTied_L5 s b n down (nI (smQ (fun c => decide (vS S P M c = vS S P M (bestQ S P M (C * R)))) (rcQ C down) c)) (nI c) = nI (smQ (fun c => decide (vS S P M c = vS S P M (bestQ S P M (C * R)))) (rcQ C down) (C * R)) ∧ kX8_sumOfTied_L5 s b n down (nI (smQ (fun c => decide (vS S P M c = vS S P M (bestQ S P M (C * R)))) (rcQ C down) c)) (nI c) := by
  have hl := h.le
  have hCR : C * R ≤ 20 * 20 := Nat.mul_le_mul (by omega) (by omega)
  have hCR0 : 2 * 2 ≤ C * R := Nat.mul_le_mul (by omega) (by omega)
  have hq : bestQ S P M (C * R) < C * R := bestQ_lt (by omega)
  intro n
  induction n with
  | zero => intro c h1 h2; omega
  | succ n ih =>
    intro c h1 h2
    show bX8_sumOfTied_L5 s b (pX8_sumOfTied_L5 s b n) _ _ _ = _ ∧ kbX8_sumOfTied_L5 s b (kX8_sumOfTied_L5 s b n) _ _ _
    unfold bX8_sumOfTied_L5 kbX8_sumOfTied_L5 pX8_sumOfTied_L51 kX8_sumOfTied_L51 pX8_sumOfTied_L53 kX8_sumOfTied_L53 pX2_cellCount
    rw [h.b0, h.b1, pk_mul]
    by_cases ec : c = C * R
    · rw [ec]
      simp only [if_pos (nI_le (Nat.le_refl (C * R)) (show C * R < 2 ^ 31 by omega))]
      exact ⟨trivial, trivial⟩
    · have hc : c < C * R := by omega
      obtain ⟨e1, e2, e3, e4, e5, e6, e7, e8⟩ := col_eq h hc
      obtain ⟨v1, v2, -, -⟩ := votesOf_eq (s := s) (c := c) (by omega)
      obtain ⟨w1, w2, -, -⟩ := votesOf_eq (s := s) (c := bestQ S P M (C * R)) (by omega)
      rw [(hV.2.1 c hc).1] at v1
      rw [(hV.2.1 _ hq).1] at w1
      have r := ih (c + 1) (by omega) (by omega)
      simp only [if_neg (nI_ge hc (show C * R < 2 ^ 31 by omega)), (hV.2.2.2 e).1, v1, w1, lt, nI_1, e1, e2]
      by_cases v : vS S P M c = vS S P M (bestQ S P M (C * R))
      · have es : smQ (fun c => decide (vS S P M c = vS S P M (bestQ S P M (C * R)))) (rcQ C down) (c + 1) = smQ (fun c => decide (vS S P M c = vS S P M (bestQ S P M (C * R)))) (rcQ C down) c + rcQ C down c := by
          show _ + (if decide (vS S P M c = vS S P M (bestQ S P M (C * R))) = true then _ else _) = _
          rw [if_pos (by simp [v])]
        rw [es] at r
        simp only [if_pos v]
        cases down with
        | true =>
          simp only [if_true, nI_add]
          exact ⟨r.1, v2, w2, e8, r.2⟩
        | false =>
          simp only [Bool.false_eq_true, if_false, nI_add]
          exact ⟨r.1, v2, w2, e7, r.2⟩
      · have es : smQ (fun c => decide (vS S P M c = vS S P M (bestQ S P M (C * R)))) (rcQ C down) (c + 1) = smQ (fun c => decide (vS S P M c = vS S P M (bestQ S P M (C * R)))) (rcQ C down) c := by
          show _ + (if decide (vS S P M c = vS S P M (bestQ S P M (C * R))) = true then _ else _) = _
          rw [if_neg (by simp [v])]
          rfl
        rw [es] at r
        simp only [if_neg v]
        exact ⟨r.1, v2, w2, r.2⟩
theorem sum_m (h : BR C R M W N b (m.2.2 0)) {P : Nat → Bool} (hF : FV (m.2.2 0) P M (C * R) m) (down : Bool) (hk : ∀ x : Int32, x = nI (smQ (fun c => decide (vS (m.2.2 0) P M c = vS (m.2.2 0) P M (bestQ (m.2.2 0) P M (C * R)))) (rcQ C down) (C * R)) → kX12_likes m (nI (bestQ (m.2.2 0) P M (C * R))) ∧ vf_n64 (FP.ddiv (FP.i2d x) (FP.i2d (pX12_likes m (nI (bestQ (m.2.2 0) P M (C * R))))))) : ∀ (n c : Nat), c ≤ C * R → C * R - c < n → pX12_middle_L27 n down (nI (bestQ (m.2.2 0) P M (C * R))) (nI (smQ (fun c => decide (vS (m.2.2 0) P M c = vS (m.2.2 0) P M (bestQ (m.2.2 0) P M (C * R)))) (rcQ C down) c)) (nI c) m = (FP.ddiv (FP.i2d (nI (smQ (fun c => decide (vS (m.2.2 0) P M c = vS (m.2.2 0) P M (bestQ (m.2.2 0) P M (C * R)))) (rcQ C down) (C * R)))) (FP.i2d (pX12_likes m (nI (bestQ (m.2.2 0) P M (C * R))))), m) ∧ kX12_middle_L27 n down (nI (bestQ (m.2.2 0) P M (C * R))) (nI (smQ (fun c => decide (vS (m.2.2 0) P M c = vS (m.2.2 0) P M (bestQ (m.2.2 0) P M (C * R)))) (rcQ C down) c)) (nI c) m := by
  have hl := h.le
  have hCR : C * R ≤ 20 * 20 := Nat.mul_le_mul (by omega) (by omega)
  have hCR0 : 2 * 2 ≤ C * R := Nat.mul_le_mul (by omega) (by omega)
  have hq : bestQ (m.2.2 0) P M (C * R) < C * R := bestQ_lt (by omega)
  have V : ∀ x, x < C * R → vp_in (nI x) 400 := fun x hx => vp_in_n (by omega) (by omega)
  intro n
  induction n with
  | zero => intro c h1 h2; omega
  | succ n ih =>
    intro c h1 h2
    show bX12_middle_L27 (pX12_middle_L27 n) _ _ _ _ _ = _ ∧ kbX12_middle_L27 (kX12_middle_L27 n) _ _ _ _ _
    unfold bX12_middle_L27 kbX12_middle_L27 pX12_middle_L70 kX12_middle_L70 pX12_middle_L95 kX12_middle_L95
    rw [h.eC, h.eR, pk_mul]
    by_cases ec : c = C * R
    · rw [ec]
      simp only [if_pos (nI_le (Nat.le_refl (C * R)) (show C * R < 2 ^ 31 by omega))]
      exact ⟨trivial, hk _ rfl⟩
    · have hc : c < C * R := by omega
      obtain ⟨e1, e2, e3, e4, e5, e6, e7, e8⟩ := col_eq h hc
      have nz : ¬ nI C = 0 := nI_ne0 (by omega) (by omega)
      have r := ih (c + 1) (by omega) (by omega)
      simp only [if_neg (nI_ge hc (show C * R < 2 ^ 31 by omega)), lt, nI_1, e4, nI_clamp (show c < 2 ^ 31 by omega), nI_clamp (show bestQ (m.2.2 0) P M (C * R) < 2 ^ 31 by omega), (hF.1 c hc).1, (hF.1 _ hq).1]
      rw [e3]
      by_cases v : vS (m.2.2 0) P M c = vS (m.2.2 0) P M (bestQ (m.2.2 0) P M (C * R))
      · have es : smQ (fun c => decide (vS (m.2.2 0) P M c = vS (m.2.2 0) P M (bestQ (m.2.2 0) P M (C * R)))) (rcQ C down) (c + 1) = smQ (fun c => decide (vS (m.2.2 0) P M c = vS (m.2.2 0) P M (bestQ (m.2.2 0) P M (C * R)))) (rcQ C down) c + rcQ C down c := by
          show _ + (if decide (vS (m.2.2 0) P M c = vS (m.2.2 0) P M (bestQ (m.2.2 0) P M (C * R))) = true then _ else _) = _
          rw [if_pos (by simp [v])]
        rw [es] at r
        simp only [if_pos v]
        cases down with
        | true =>
          simp only [if_true, nI_add]
          exact ⟨r.1, nz, V c hc, V _ hq, r.2⟩
        | false =>
          simp only [Bool.false_eq_true, if_false, nI_add]
          exact ⟨r.1, nz, V c hc, V _ hq, r.2⟩
      · have es : smQ (fun c => decide (vS (m.2.2 0) P M c = vS (m.2.2 0) P M (bestQ (m.2.2 0) P M (C * R)))) (rcQ C down) (c + 1) = smQ (fun c => decide (vS (m.2.2 0) P M c = vS (m.2.2 0) P M (bestQ (m.2.2 0) P M (C * R)))) (rcQ C down) c := by
          show _ + (if decide (vS (m.2.2 0) P M c = vS (m.2.2 0) P M (bestQ (m.2.2 0) P M (C * R))) = true then _ else _) = _
          rw [if_neg (by simp [v])]
          rfl
        rw [es] at r
        simp only [if_neg v, Int32.add_zero]
        cases down with
        | true =>
          simp only [if_true]
          exact ⟨r.1, nz, V c hc, V _ hq, r.2⟩
        | false =>
          simp only [Bool.false_eq_true, if_false]
          exact ⟨r.1, nz, V c hc, V _ hq, r.2⟩
theorem tiedQ_pos {P : Nat → Bool} {n' : Nat} (hn : 0 < n') : 0 < tiedQ S P M n' ∧ tiedQ S P M n' ≤ n' := by
  have hq : bestQ S P M n' < n' := bestQ_lt hn
  refine ⟨?_, fa_cnt_le _ _⟩
  have := cnt_lt (fun c => decide (vS S P M c = vS S P M (bestQ S P M n'))) hq (by simp)
  unfold tiedQ
  omega
end ASK
