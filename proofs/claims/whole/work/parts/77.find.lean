/-! PURE: the reference finds the same cell; blames -/
section FIND
variable {C R M W N : Nat} {b b' : BS} {S S' : Nat → Int32} {m : MS}
def sameF (m m' : MS) : Prop := m'.2.1 = m.2.1 ∧ (∀ k, k ≠ 6 → m'.1 k = m.1 k) ∧ (∀ k, k ≠ 9 → k ≠ 10 → k ≠ 11 → m'.2.2 k = m.2.2 k)
theorem sameF.rfl' (m : MS) : sameF m m := ⟨rfl, fun _ _ => rfl, fun _ _ _ _ => rfl⟩
theorem sameF.trans {a c d : MS} (h : sameF a c) (g : sameF c d) : sameF a d := ⟨g.1.trans h.1, fun k hk => (g.2.1 k hk).trans (h.2.1 k hk), fun k h9 h10 h11 => (g.2.2 k h9 h10 h11).trans (h.2.2 k h9 h10 h11)⟩
theorem sameF.keeps {a c : MS} (h : sameF a c) : keeps a c := ⟨h.2.1 0 (by decide), h.2.1 1 (by decide), h.2.1 2 (by decide), h.2.1 7 (by decide), h.2.2 1 (by decide) (by decide) (by decide), h.2.2 2 (by decide) (by decide) (by decide), h.2.2 3 (by decide) (by decide) (by decide)⟩
theorem sameF.eS {a c : MS} (h : sameF a c) : c.2.2 0 = a.2.2 0 := h.2.2 0 (by decide) (by decide) (by decide)
theorem stV_same (m : MS) (F : Nat → Int32) (c : Nat) (a : A3) : sameF m (stV (msa m 11 F) c a) := by
  refine ⟨rfl, fun k hk => ?_, fun k h9 h10 h11 => ?_⟩
  · show upd m.1 6 _ k = _
    exact upd_ne _ _ hk
  · show updA (updA (updA m.2.2 11 F) 9 _) 10 _ k = _
    rw [updA_ne _ _ h10, updA_ne _ _ h9, updA_ne _ _ h11]
def FV (S : Nat → Int32) (P : Nat → Bool) (M n' : Nat) (m : MS) : Prop := (∀ c, c < n' → m.2.2 9 c = vS S P M c ∧ m.2.2 10 c = eS S P M c) ∧ m.1 6 = nI (tri (fa_cnt P M))
theorem stV_arr {n' : Nat} (m : MS) (F : Nat → Int32) {c : Nat} {P : Nat → Bool} (h : ∀ c', c' < c → m.2.2 9 c' = vS S P M c' ∧ m.2.2 10 c' = eS S P M c') : FV S P M (c + 1) (stV (msa m 11 F) c (VE S P M c)) := by
  refine ⟨fun c' hc' => ?_, VE_3 S P M c⟩
  show upd (m.2.2 9) c _ c' = _ ∧ upd (m.2.2 10) c _ c' = _
  by_cases e : c' = c
  · rw [e, upd_eq, upd_eq]; exact ⟨rfl, rfl⟩
  · rw [upd_ne _ _ e, upd_ne _ _ e]; exact h c' (by omega)
theorem f20_L {P : Nat → Bool} {wo : Int32} : ∀ (d n c q : Nat), c + d = C * R → d < n → q < c → ∀ m : MS, BR C R M W N b (m.2.2 0) → (∀ j, j < M → P j = (hasP (m.2.2 0) j && decide (nI j ≠ wo))) → FV (m.2.2 0) P M c m → ∃ m', pX12_finds_L20 n wo (nI q) (nI (C * R)) (nI c) m = (if tri (fa_cnt P M) = 0 then -1000000000 else nI (bestS (vS (m.2.2 0) P M) (eS (m.2.2 0) P M) d c q), m') ∧ kX12_finds_L20 n wo (nI q) (nI (C * R)) (nI c) m ∧ FV (m.2.2 0) P M (C * R) m' ∧ sameF m m' := by
  intro d
  induction d with
  | zero =>
    intro n c q h1 h2 h3 m h hP hF
    have hl := h.le
    have hCR : C * R ≤ 20 * 20 := Nat.mul_le_mul (by omega) (by omega)
    have tb := tri_b (K := fa_cnt P M) (by have := fa_cnt_le P M; omega)
    obtain ⟨n, rfl⟩ : ∃ p, n = p + 1 := ⟨n - 1, by omega⟩
    have e : c = C * R := by omega
    rw [e] at hF h3 ⊢
    show ∃ m', bX12_finds_L20 (pX12_finds_L20 n) _ _ _ _ _ = _ ∧ kbX12_finds_L20 (kX12_finds_L20 n) _ _ _ _ _ ∧ _
    unfold bX12_finds_L20 kbX12_finds_L20
    simp only [if_pos (nI_le (Nat.le_refl (C * R)) (show C * R < 2 ^ 31 by omega))]
    rw [hF.2]
    by_cases e0 : tri (fa_cnt P M) = 0
    · rw [e0, if_pos (show nI 0 = 0 from rfl), if_pos rfl]
      exact ⟨m, rfl, trivial, ⟨hF.1, hF.2⟩, sameF.rfl' m⟩
    · rw [if_neg (nI_ne0 (by omega) (by omega)), if_neg e0]
      exact ⟨m, rfl, trivial, hF, sameF.rfl' m⟩
  | succ d ih =>
    intro n c q h1 h2 h3 m h hP hF
    have hl := h.le
    have hCR : C * R ≤ 20 * 20 := Nat.mul_le_mul (by omega) (by omega)
    obtain ⟨n, rfl⟩ : ∃ p, n = p + 1 := ⟨n - 1, by omega⟩
    have hc : c < C * R := by omega
    obtain ⟨F, w1, w2⟩ := votesAt_eq h hc hP
    have V : ∀ x, x < C * R → vp_in (nI x) 400 := fun x hx => vp_in_n (by omega) (by omega)
    have hA := stV_arr (n' := c + 1) (S := m.2.2 0) (M := M) (P := P) m F hF.1
    obtain ⟨m1, hm1⟩ : ∃ m1, m1 = stV (msa m 11 F) c (VE (m.2.2 0) P M c) := ⟨_, rfl⟩
    have hs : sameF m m1 := by rw [hm1]; exact stV_same m F c _
    rw [← hm1] at w1 hA
    have eS0 : m1.2.2 0 = m.2.2 0 := hs.eS
    show ∃ m', bX12_finds_L20 (pX12_finds_L20 n) _ _ _ _ _ = _ ∧ kbX12_finds_L20 (kX12_finds_L20 n) _ _ _ _ _ ∧ _
    unfold bX12_finds_L20 kbX12_finds_L20 pX12_finds_L87 kX12_finds_L87 pX12_finds_L91 kX12_finds_L91 pX12_finds_L92 kX12_finds_L92 pX12_finds_L105 kX12_finds_L105
    simp only [if_neg (nI_ge hc (show C * R < 2 ^ 31 by omega)), lt, w1, nI_1, nI_clamp (show c < 2 ^ 31 by omega), nI_clamp (show q < 2 ^ 31 by omega), if_neg (nI_nNO (j := q) (by omega)), (hA.1 c (by omega)).1, (hA.1 c (by omega)).2, (hA.1 q (by omega)).1, (hA.1 q (by omega)).2, if_true, Bool.false_eq_true, if_false]
    show ∃ m', _ = (if tri (fa_cnt P M) = 0 then -1000000000 else nI (bestS (vS (m.2.2 0) P M) (eS (m.2.2 0) P M) d (c + 1) (if betterS (vS (m.2.2 0) P M) (eS (m.2.2 0) P M) c q = true then c else q)), m') ∧ _
    have r := fun (q : Nat) (hq : q < c + 1) => ih n (c + 1) q (by omega) (by omega) hq m1 (by rw [eS0]; exact h) (by rw [eS0]; exact hP) (by rw [eS0]; exact hA)
    rw [eS0] at r
    by_cases v1 : vS (m.2.2 0) P M q < vS (m.2.2 0) P M c
    · have v1' : ¬ vS (m.2.2 0) P M c ≤ vS (m.2.2 0) P M q := by rw [fa_lt] at v1; rw [fa_le]; omega
      have eb : betterS (vS (m.2.2 0) P M) (eS (m.2.2 0) P M) c q = true := by unfold betterS; simp [v1']
      simp only [if_pos v1, eb, if_true]
      obtain ⟨m', r1, r2, r3, r4⟩ := r c (by omega)
      exact ⟨m', r1, ⟨w2, V c hc, V q (by omega), r2⟩, r3, hs.trans r4⟩
    · have v1' : vS (m.2.2 0) P M c ≤ vS (m.2.2 0) P M q := by rw [fa_lt] at v1; rw [fa_le]; omega
      by_cases v2 : vS (m.2.2 0) P M c = vS (m.2.2 0) P M q
      · by_cases v3 : eS (m.2.2 0) P M q ≤ eS (m.2.2 0) P M c
        · have eb : betterS (vS (m.2.2 0) P M) (eS (m.2.2 0) P M) c q = false := by unfold betterS; simp [v1', v3]
          simp only [if_neg v1, if_pos v2, if_pos v3, eb, Bool.false_eq_true, if_false]
          obtain ⟨m', r1, r2, r3, r4⟩ := r q (by omega)
          exact ⟨m', r1, ⟨w2, V c hc, V q (by omega), V c hc, V q (by omega), V c hc, V q (by omega), r2⟩, r3, hs.trans r4⟩
        · have eb : betterS (vS (m.2.2 0) P M) (eS (m.2.2 0) P M) c q = true := by unfold betterS; simp [v2, v3]
          simp only [if_neg v1, if_pos v2, if_neg v3, eb, if_true]
          obtain ⟨m', r1, r2, r3, r4⟩ := r c (by omega)
          exact ⟨m', r1, ⟨w2, V c hc, V q (by omega), V c hc, V q (by omega), V c hc, V q (by omega), r2⟩, r3, hs.trans r4⟩
      · have eb : betterS (vS (m.2.2 0) P M) (eS (m.2.2 0) P M) c q = false := by unfold betterS; simp [v1', v2]
        simp only [if_neg v1, if_neg v2, eb, Bool.false_eq_true, if_false]
        obtain ⟨m', r1, r2, r3, r4⟩ := r q (by omega)
        exact ⟨m', r1, ⟨w2, V c hc, V q (by omega), V c hc, V q (by omega), r2⟩, r3, hs.trans r4⟩
noncomputable def foundQ (S : Nat → Int32) (P : Nat → Bool) (M n' : Nat) : Int32 := if tri (fa_cnt P M) = 0 then -1000000000 else nI (bestQ S P M n')
theorem finds_eq (h : BR C R M W N b (m.2.2 0)) {P : Nat → Bool} {wo : Int32} (hP : ∀ j, j < M → P j = (hasP (m.2.2 0) j && decide (nI j ≠ wo))) : ∃ m', pX12_finds m wo = (foundQ (m.2.2 0) P M (C * R), m') ∧ kX12_finds m wo ∧ FV (m.2.2 0) P M (C * R) m' ∧ sameF m m' := by
  have hl := h.le
  have hCR : C * R ≤ 20 * 20 := Nat.mul_le_mul (by omega) (by omega)
  have hCR0 : 2 * 2 ≤ C * R := Nat.mul_le_mul (by omega) (by omega)
  obtain ⟨F, w1, w2⟩ := votesAt_eq (c := 0) h (by omega) hP
  have hA := stV_arr (n' := 1) (c := 0) (S := m.2.2 0) (M := M) (P := P) m F (fun c' hc' => by omega)
  obtain ⟨m1, hm1⟩ : ∃ m1, m1 = stV (msa m 11 F) 0 (VE (m.2.2 0) P M 0) := ⟨_, rfl⟩
  have hs : sameF m m1 := by rw [hm1]; exact stV_same m F 0 _
  rw [← hm1] at w1 hA
  have eS0 : m1.2.2 0 = m.2.2 0 := hs.eS
  obtain ⟨n, hn, hg⟩ := pu_fu 1 (by omega)
  obtain ⟨m', r1, r2, r3, r4⟩ := f20_L (C := C) (R := R) (P := P) (wo := wo) (C * R - 1) n 1 0 (by omega) (by omega) (by omega) m1 (by rw [eS0]; exact h) (by rw [eS0]; exact hP) (by rw [eS0]; exact hA)
  rw [eS0] at r1 r3
  have eP : pX12_finds m wo = pX12_finds_L20 n wo (nI 0) (nI (C * R)) (nI 1) m1 := by
    unfold pX12_finds
    simp only [lt]
    rw [h.eC, h.eR, pk_mul, hn]
    show bX12_finds_L20 (pX12_finds_L20 n) _ _ _ _ _ = _
    unfold bX12_finds_L20 pX12_finds_L87 pX12_finds_L92 pX12_finds_L105
    rw [if_neg (show ¬ nI (C * R) ≤ 0 from nI_nle (by omega) (by omega))]
    simp only [lt, if_true]
    rw [show (0 : Int32) = nI 0 from rfl, w1, nI_1]
  have eK : kX12_finds m wo := by
    unfold kX12_finds
    simp only [lt]
    rw [h.eC, h.eR, pk_mul, hn]
    show kbX12_finds_L20 (kX12_finds_L20 n) _ _ _ _ _
    unfold kbX12_finds_L20 kX12_finds_L87 kX12_finds_L92 kX12_finds_L105
    rw [if_neg (show ¬ nI (C * R) ≤ 0 from nI_nle (by omega) (by omega))]
    simp only [lt, if_true]
    rw [show (0 : Int32) = nI 0 from rfl, w1, nI_1]
    exact ⟨w2, r2⟩
  exact ⟨m', eP.trans r1, eK, r3, hs.trans r4⟩
theorem foundQ_s {P : Nat → Bool} {n' : Nat} {s : SS} (h : SV S P M n' s) : s.1 1 = foundQ S P M n' := by
  unfold foundQ
  by_cases e : tri (fa_cnt P M) = 0
  · rw [if_pos e]; exact (h.2.2.1 e).1
  · rw [if_neg e]; exact (h.2.2.2 e).1
theorem bestQ_lt {P : Nat → Bool} {n' : Nat} (h : 0 < n') : bestQ S P M n' < n' := bestS_lt _ _ _ _ _ _ (by omega) h
theorem likes_L (h : BR C R M W N b (m.2.2 0)) {q : Nat} (hq : q < C * R) : ∀ (n c : Nat), c ≤ C * R → C * R - c < n → pX12_likes_L4 m n (nI q) (nI (fa_cnt (fun c => decide (m.2.2 9 c = m.2.2 9 q)) c)) (nI c) = nI (fa_cnt (fun c => decide (m.2.2 9 c = m.2.2 9 q)) (C * R)) ∧ kX12_likes_L4 m n (nI q) (nI (fa_cnt (fun c => decide (m.2.2 9 c = m.2.2 9 q)) c)) (nI c) := by
  have hl := h.le
  have hCR : C * R ≤ 20 * 20 := Nat.mul_le_mul (by omega) (by omega)
  have V : ∀ x, x < C * R → vp_in (nI x) 400 := fun x hx => vp_in_n (by omega) (by omega)
  intro n
  induction n with
  | zero => intro c h1 h2; omega
  | succ n ih =>
    intro c h1 h2
    show bX12_likes_L4 m (pX12_likes_L4 m n) _ _ _ = _ ∧ kbX12_likes_L4 m (kX12_likes_L4 m n) _ _ _
    unfold bX12_likes_L4 kbX12_likes_L4 pX12_likes_L48 kX12_likes_L48
    rw [h.eC, h.eR, pk_mul]
    by_cases e : c = C * R
    · rw [e]
      simp only [if_pos (nI_le (Nat.le_refl (C * R)) (show C * R < 2 ^ 31 by omega))]
      exact ⟨trivial, trivial⟩
    · have hc : c < C * R := by omega
      have r := ih (c + 1) (by omega) (by omega)
      simp only [if_neg (nI_ge hc (show C * R < 2 ^ 31 by omega)), if_neg (nI_nNO (j := q) (by omega)), nI_clamp (show c < 2 ^ 31 by omega), nI_clamp (show q < 2 ^ 31 by omega), lt, nI_1]
      by_cases v : m.2.2 9 c = m.2.2 9 q
      · rw [fa_cnt_yes (by simp [v])] at r
        simp only [if_pos v, show bz true = 1 from rfl, nI_1]
        exact ⟨r.1, V c hc, V q hq, r.2⟩
      · rw [fa_cnt_no (by simp [v])] at r
        simp only [if_neg v, show bz false = 0 from rfl, Int32.add_zero]
        exact ⟨r.1, V c hc, V q hq, r.2⟩
theorem likes_eq (h : BR C R M W N b (m.2.2 0)) {P : Nat → Bool} {s : SS} (hF : FV (m.2.2 0) P M (C * R) m) (hV : SV (m.2.2 0) P M (C * R) s) : pX12_likes m (foundQ (m.2.2 0) P M (C * R)) = s.1 2 ∧ kX12_likes m (foundQ (m.2.2 0) P M (C * R)) := by
  have hl := h.le
  have hCR : C * R ≤ 20 * 20 := Nat.mul_le_mul (by omega) (by omega)
  have hCR0 : 2 * 2 ≤ C * R := Nat.mul_le_mul (by omega) (by omega)
  unfold foundQ
  by_cases e : tri (fa_cnt P M) = 0
  · rw [if_pos e, (hV.2.2.1 e).2]
    unfold pX12_likes kX12_likes
    obtain ⟨n, hn, hg⟩ := pu_fu 1 (by omega)
    rw [hn]
    show bX12_likes_L4 m (pX12_likes_L4 m n) _ _ _ = _ ∧ kbX12_likes_L4 m (kX12_likes_L4 m n) _ _ _
    unfold bX12_likes_L4 kbX12_likes_L4
    simp only [if_true, ite_self]
    exact ⟨trivial, trivial⟩
  · rw [if_neg e, (hV.2.2.2 e).2]
    have hq : bestQ (m.2.2 0) P M (C * R) < C * R := bestQ_lt (by omega)
    obtain ⟨r1, r2⟩ := likes_L h hq fu 0 (by omega) (by have := fu_ge; omega)
    refine ⟨?_, r2⟩
    have ec : fa_cnt (fun c => decide (m.2.2 9 c = m.2.2 9 (bestQ (m.2.2 0) P M (C * R)))) (C * R) = tiedQ (m.2.2 0) P M (C * R) := fa_cnt_cong (fun k hk => by rw [(hF.1 k hk).1, (hF.1 _ hq).1])
    rw [← ec]
    exact r1
/-- blames -/
theorem apart_sym {p q s t : Int32} (hp : rg p (-800000) 800000) (hq : rg q (-800000) 800000) (hs : rg s 0 300000) (ht : rg t 0 300000) : pX12_apart (p - q) (s - t) = pX12_apart (q - p) (t - s) := by
  obtain ⟨p1, p2⟩ := hp
  obtain ⟨q1, q2⟩ := hq
  obtain ⟨s1, s2⟩ := hs
  obtain ⟨t1, t2⟩ := ht
  have a3 : (p - q).toInt = p.toInt - q.toInt := Kit.i32_sub (by omega) (by omega)
  have a4 : (s - t).toInt = s.toInt - t.toInt := Kit.i32_sub (by omega) (by omega)
  have b3 : (q - p).toInt = q.toInt - p.toInt := Kit.i32_sub (by omega) (by omega)
  have b4 : (t - s).toInt = t.toInt - s.toInt := Kit.i32_sub (by omega) (by omega)
  have a6 : (p - q - (s - t)).toInt = p.toInt - q.toInt - (s.toInt - t.toInt) := by rw [Kit.i32_sub (by omega) (by omega), a3, a4]
  have a7 : (s - t - (p - q)).toInt = s.toInt - t.toInt - (p.toInt - q.toInt) := by rw [Kit.i32_sub (by omega) (by omega), a3, a4]
  have b6 : (q - p - (t - s)).toInt = q.toInt - p.toInt - (t.toInt - s.toInt) := by rw [Kit.i32_sub (by omega) (by omega), b3, b4]
  have b7 : (t - s - (q - p)).toInt = t.toInt - s.toInt - (q.toInt - p.toInt) := by rw [Kit.i32_sub (by omega) (by omega), b3, b4]
  unfold pX12_apart
  apply Int32.toInt_inj.mp
  by_cases h : s - t ≤ p - q
  · rw [if_pos h]
    rw [fa_le, a3, a4] at h
    by_cases g : t - s ≤ q - p
    · rw [if_pos g]
      rw [fa_le, b3, b4] at g
      omega
    · rw [if_neg g]
      omega
  · rw [if_neg h]
    rw [fa_le, a3, a4] at h
    by_cases g : t - s ≤ q - p
    · rw [if_pos g]
      omega
    · rw [fa_le, b3, b4] at g
      omega
theorem gpS_sym (h : BR C R M W N b S) {c i j : Nat} (hc : c < C * R) (hi : i < M) (hj : j < M) : gpS S c i j = gpS S c j i := by
  obtain ⟨T, T1, T2, -⟩ := tf_eq h hc hi
  obtain ⟨U, U1, U2, -⟩ := tf_eq h hc hj
  obtain ⟨-, -, -, -, -, m1⟩ := h.mic hi
  obtain ⟨-, -, -, -, -, m2⟩ := h.mic hj
  have r1 : rg (tf S c i) 0 300000 := by unfold rg; rw [T2, nI_toInt (by omega)]; omega
  have r2 : rg (tf S c j) 0 300000 := by unfold rg; rw [U2, nI_toInt (by omega)]; omega
  exact apart_sym m1 m2 r1 r2
/-- a microphone that takes part in the blame of another -/
noncomputable def badB (S : Nat → Int32) (P : Nat → Bool) (c w j : Nat) : Bool := P w && P j && decide (j ≠ w) && !decide (gpS S c w j ≤ S 13)
theorem blame_mL (h : BR C R M W N b (m.2.2 0)) {P : Nat → Bool} (hP : ∀ j, j < M → P j = (hasP (m.2.2 0) j && decide (nI j ≠ -1000000000))) {c w : Nat} (hc : c < C * R) (hw : w < M) : ∀ (n j : Nat), j ≤ M → M - j < n → pX12_blameOf_L14 m n (nI w) (nI c) (nI (fa_cnt (badB (m.2.2 0) P c w) j)) (nI j) = nI (fa_cnt (badB (m.2.2 0) P c w) M) ∧ kX12_blameOf_L14 m n (nI w) (nI c) (nI (fa_cnt (badB (m.2.2 0) P c w) j)) (nI j) := by
  have hl := h.le
  intro n
  induction n with
  | zero => intro j h1 h2; omega
  | succ n ih =>
    intro j h1 h2
    show bX12_blameOf_L14 m (pX12_blameOf_L14 m n) _ _ _ _ = _ ∧ kbX12_blameOf_L14 m (kX12_blameOf_L14 m n) _ _ _ _
    unfold bX12_blameOf_L14 kbX12_blameOf_L14 pX12_blameOf_L94 kX12_blameOf_L94 pX12_blameOf_L96 kX12_blameOf_L96
    rw [h.eM]
    by_cases e : j = M
    · rw [e]
      simp only [if_pos (nI_le (Nat.le_refl M) (show M < 2 ^ 31 by omega))]
      exact ⟨trivial, trivial⟩
    · have hj : j < M := by omega
      have r := ih (j + 1) (by omega) (by omega)
      obtain ⟨p1, p2⟩ := pair_eq (m := m) hw hj hl.2.2.1 (wo := -1000000000) (P := P) hP
      simp only [if_neg (nI_ge hj (show M < 2 ^ 31 by omega)), lt, nI_1, p1]
      by_cases ew : j = w
      · rw [fa_cnt_no (by unfold badB; simp [ew])] at r
        rw [if_pos (by rw [ew]), if_pos (by rw [ew])]
        exact r
      · rw [if_neg (fun e9 => ew ((nI_eq (by omega) (by omega)).mp e9)), if_neg (fun e9 => ew ((nI_eq (by omega) (by omega)).mp e9))]
        by_cases pp : (P w && P j) = true
        · obtain ⟨T, T1, T2, T3, T4, T5⟩ := tf_eq h hc hw
          obtain ⟨U, U1, U2, U3, U4, U5⟩ := tf_eq h hc hj
          obtain ⟨o1, o2⟩ := of_eq (m := m) (i := w) (k := 5) (kk := 5) rfl (by omega) (by omega)
          obtain ⟨o3, o4⟩ := of_eq (m := m) (i := j) (k := 5) (kk := 5) rfl (by omega) (by omega)
          simp only [if_pos pp, (T5 m rfl).1, (U5 m rfl).1, o1, o3]
          have eg : pX12_apart (m.2.2 0 (14 + 10 * w + 5) - m.2.2 0 (14 + 10 * j + 5)) (tf (m.2.2 0) c w - tf (m.2.2 0) c j) = gpS (m.2.2 0) c w j := rfl
          rw [eg]
          by_cases v : gpS (m.2.2 0) c w j ≤ m.2.2 0 13
          · rw [fa_cnt_no (by unfold badB; simp [v])] at r
            simp only [if_pos v, show bz false = 0 from rfl, Int32.add_zero]
            exact ⟨r.1, p2, o2, o4, (T5 m rfl).2, (U5 m rfl).2, r.2⟩
          · rw [fa_cnt_yes (by unfold badB; simp [v, ew, pp])] at r
            simp only [if_neg v, show bz true = 1 from rfl, nI_1]
            exact ⟨r.1, p2, o2, o4, (T5 m rfl).2, (U5 m rfl).2, r.2⟩
        · rw [fa_cnt_no (by unfold badB; simp [pp])] at r
          simp only [if_neg pp]
          exact ⟨r.1, p2, r.2⟩
noncomputable def blameQ (S : Nat → Int32) (P : Nat → Bool) (M n' w : Nat) : Int32 := if tri (fa_cnt P M) = 0 then -1000000000 else nI (fa_cnt (badB S P (bestQ S P M n') w) M)
theorem blame_m (h : BR C R M W N b (m.2.2 0)) {P : Nat → Bool} (hP : ∀ j, j < M → P j = (hasP (m.2.2 0) j && decide (nI j ≠ -1000000000))) {w : Nat} (hw : w < M) : pX12_blameOf m (nI w) (foundQ (m.2.2 0) P M (C * R)) = blameQ (m.2.2 0) P M (C * R) w ∧ kX12_blameOf m (nI w) (foundQ (m.2.2 0) P M (C * R)) := by
  have hl := h.le
  have hCR0 : 2 * 2 ≤ C * R := Nat.mul_le_mul (by omega) (by omega)
  have hCR : C * R ≤ 20 * 20 := Nat.mul_le_mul (by omega) (by omega)
  unfold pX12_blameOf kX12_blameOf foundQ blameQ
  by_cases e : tri (fa_cnt P M) = 0
  · simp only [if_pos e, if_true]
    exact ⟨trivial, trivial⟩
  · have hq : bestQ (m.2.2 0) P M (C * R) < C * R := bestQ_lt (by omega)
    simp only [if_neg e, if_neg (nI_nNO (j := bestQ (m.2.2 0) P M (C * R)) (by omega))]
    exact blame_mL h hP hq hw fu 0 (by omega) (by have := fu_ge; omega)
/-- the class's blame: pairs one of which is the microphone -/
noncomputable def badI (S : Nat → Int32) (P : Nat → Bool) (c w i j : Nat) : Bool := P j && (decide (i = w) || decide (j = w)) && !decide (gpS S c i j ≤ S 13)
theorem h_ix {P : Nat → Bool} {i w : Nat} {s : SS} (hH : HR P M s) (hM : M ≤ 8) (hi : i < M) (pi : P i = true) (hw : w < M) : (s.2 2 (nI (fa_cnt P i)).toNatClampNeg = nI w) = (i = w) := by
  have cl := cnt_lt P hi pi
  have cM := fa_cnt_le P M
  rw [nI_clamp (by omega), hH.2 i hi pi, nI_eq (by omega) (by omega)]
theorem bi_L (h : BR C R M W N b S) {P : Nat → Bool} {c i w : Nat} (hc : c < C * R) (hi : i < M) (hw : w < M) (pi : P i = true) {s : SS} (hH : HR P M s) (hs : startR S P M c s) (q : Int32 → Int32 → Int32 → Int32 → SS → BS → Int32 × SS × BS) (Q : Int32 → Int32 → Int32 → Int32 → SS → BS → Prop) : ∀ (d j n : Nat), M - j = d → j ≤ M → fa_cnt P M - fa_cnt P j < n → ∀ a : Nat,
    pX8_blameOf_L49 q n (nI w) (S 13) (nI a) (nI (fa_cnt P i)) (nI (fa_cnt P j)) s b = q (nI w) (S 13) (nI (a + (fa_cnt (badI S P c w i) M - fa_cnt (badI S P c w i) j))) (nI (fa_cnt P i + 1)) s b ∧ (Q (nI w) (S 13) (nI (a + (fa_cnt (badI S P c w i) M - fa_cnt (badI S P c w i) j))) (nI (fa_cnt P i + 1)) s b → kX8_blameOf_L49 Q n (nI w) (S 13) (nI a) (nI (fa_cnt P i)) (nI (fa_cnt P j)) s b) := by
  have hl := h.le
  have cM := fa_cnt_le P M
  intro d
  induction d with
  | zero =>
    intro j n h1 h2 h3 a
    have e : j = M := by omega
    rw [e] at h3 ⊢
    obtain ⟨n, rfl⟩ : ∃ p, n = p + 1 := ⟨n - 1, by omega⟩
    show bX8_blameOf_L49 q (pX8_blameOf_L49 q n) _ _ _ _ _ _ _ = _ ∧ (_ → kbX8_blameOf_L49 Q (kX8_blameOf_L49 Q n) _ _ _ _ _ _ _)
    unfold bX8_blameOf_L49 kbX8_blameOf_L49
    rw [hH.1]
    simp only [if_pos (nI_le (Nat.le_refl (fa_cnt P M)) (show fa_cnt P M < 2 ^ 31 by omega)), lt, nI_1, Nat.sub_self, Nat.add_zero]
    exact ⟨trivial, fun h => h⟩
  | succ d ih =>
    intro j n h1 h2 h3 a
    have hj : j < M := by omega
    have bm := cnt_mono (badI S P c w i) (show j + 1 ≤ M from hj)
    by_cases pj : P j = true
    · have cl := cnt_lt P hj pj
      have cli := cnt_lt P hi pi
      have cy := fa_cnt_yes pj
      obtain ⟨n, rfl⟩ : ∃ p, n = p + 1 := ⟨n - 1, by omega⟩
      obtain ⟨g1, g2⟩ := gap_eq h hc hi hj pi pj hs
      have Vi : vp_in (nI (fa_cnt P i)) 8 := vp_in_n (by omega) (by omega)
      have Vj : vp_in (nI (fa_cnt P j)) 8 := vp_in_n (by omega) (by omega)
      show bX8_blameOf_L49 q (pX8_blameOf_L49 q n) _ _ _ _ _ _ _ = _ ∧ (_ → kbX8_blameOf_L49 Q (kX8_blameOf_L49 Q n) _ _ _ _ _ _ _)
      unfold bX8_blameOf_L49 kbX8_blameOf_L49 pX8_blameOf_L80 kX8_blameOf_L80 pX8_blameOf_L85 kX8_blameOf_L85 pX8_blameOf_L107 kX8_blameOf_L107
      rw [hH.1]
      simp only [if_neg (nI_ge cl (show fa_cnt P M < 2 ^ 31 by omega)), lt, g1, nI_1, h_ix hH hl.2.2.1 hi pi hw, h_ix hH hl.2.2.1 hj pj hw, if_true, Bool.false_eq_true, if_false]
      have r := fun a => ih (j + 1) n (by omega) (by omega) (by omega) a
      rw [cy] at r
      by_cases v : gpS S c i j ≤ S 13
      · have eb : badI S P c w i j = false := by unfold badI; simp [v]
        rw [fa_cnt_no eb] at r
        simp only [if_pos v]
        by_cases e1 : i = w
        · simp only [if_pos e1]
          exact ⟨(r a).1, fun hq => ⟨Vi, g2, (r a).2 hq⟩⟩
        · by_cases e2 : j = w
          · simp only [if_neg e1, if_pos e2]
            exact ⟨(r a).1, fun hq => ⟨Vi, Vj, g2, (r a).2 hq⟩⟩
          · simp only [if_neg e1, if_neg e2]
            exact ⟨(r a).1, fun hq => ⟨Vi, Vj, (r a).2 hq⟩⟩
      · simp only [if_neg v]
        by_cases e1 : i = w
        · have eb : badI S P c w i j = true := by unfold badI; rw [show decide (gpS S c i j ≤ S 13) = false from decide_eq_false v, pj, show decide (i = w) = true from decide_eq_true e1]; rfl
          rw [fa_cnt_yes eb] at r bm
          simp only [if_pos e1]
          rw [show a + (fa_cnt (badI S P c w i) M - fa_cnt (badI S P c w i) j) = a + 1 + (fa_cnt (badI S P c w i) M - (fa_cnt (badI S P c w i) j + 1)) by omega]
          exact ⟨(r (a + 1)).1, fun hq => ⟨Vi, g2, (r (a + 1)).2 hq⟩⟩
        · by_cases e2 : j = w
          · have eb : badI S P c w i j = true := by unfold badI; rw [show decide (gpS S c i j ≤ S 13) = false from decide_eq_false v, pj, show decide (j = w) = true from decide_eq_true e2, Bool.or_true]; rfl
            rw [fa_cnt_yes eb] at r bm
            simp only [if_neg e1, if_pos e2]
            rw [show a + (fa_cnt (badI S P c w i) M - fa_cnt (badI S P c w i) j) = a + 1 + (fa_cnt (badI S P c w i) M - (fa_cnt (badI S P c w i) j + 1)) by omega]
            exact ⟨(r (a + 1)).1, fun hq => ⟨Vi, Vj, g2, (r (a + 1)).2 hq⟩⟩
          · have eb : badI S P c w i j = false := by unfold badI; simp [e1, e2]
            rw [fa_cnt_no eb] at r
            simp only [if_neg e1, if_neg e2]
            exact ⟨(r a).1, fun hq => ⟨Vi, Vj, (r a).2 hq⟩⟩
    · have cn := fa_cnt_no (p := P) (n := j) (by simpa using pj)
      have eb : badI S P c w i j = false := by unfold badI; simp [pj]
      have r := ih (j + 1) n (by omega) (by omega) (by omega) a
      rw [cn, fa_cnt_no eb] at r
      exact r
noncomputable def restB (S : Nat → Int32) (P : Nat → Bool) (M c w : Nat) : Nat → Nat → Nat
  | 0 => fun _ => 0
  | d + 1 => fun i => (if P i = true then fa_cnt (badI S P c w i) M - fa_cnt (badI S P c w i) (i + 1) else 0) + restB S P M c w d (i + 1)
theorem bo_L (h : BR C R M W N b S) {P : Nat → Bool} {c w : Nat} (hc : c < C * R) (hw : w < M) {s : SS} (hH : HR P M s) (hs : startR S P M c s) : ∀ (d i n : Nat), M - i = d → i ≤ M → fa_cnt P M - fa_cnt P i < n → ∀ a : Nat, pX8_blameOf_L34 n (nI w) (S 13) (nI a) (nI (fa_cnt P i)) s b = (nI (a + restB S P M c w d i), s, b) ∧ kX8_blameOf_L34 n (nI w) (S 13) (nI a) (nI (fa_cnt P i)) s b := by
  have hl := h.le
  have cM := fa_cnt_le P M
  intro d
  induction d with
  | zero =>
    intro i n h1 h2 h3 a
    have e : i = M := by omega
    rw [e] at h3 ⊢
    obtain ⟨n, rfl⟩ : ∃ p, n = p + 1 := ⟨n - 1, by omega⟩
    show bX8_blameOf_L34 (pX8_blameOf_L34 n) _ _ _ _ _ _ = _ ∧ kbX8_blameOf_L34 (kX8_blameOf_L34 n) _ _ _ _ _ _
    unfold bX8_blameOf_L34 kbX8_blameOf_L34
    rw [hH.1]
    simp only [if_pos (nI_le (Nat.le_refl (fa_cnt P M)) (show fa_cnt P M < 2 ^ 31 by omega)), restB, Nat.add_zero]
    exact ⟨trivial, trivial⟩
  | succ d ih =>
    intro i n h1 h2 h3 a
    have hi : i < M := by omega
    by_cases pi : P i = true
    · have cl := cnt_lt P hi pi
      have cy := fa_cnt_yes pi
      have cm := cnt_mono P (show i + 1 ≤ M from hi)
      obtain ⟨n, rfl⟩ : ∃ p, n = p + 1 := ⟨n - 1, by omega⟩
      show bX8_blameOf_L34 (pX8_blameOf_L34 n) _ _ _ _ _ _ = _ ∧ kbX8_blameOf_L34 (kX8_blameOf_L34 n) _ _ _ _ _ _
      unfold bX8_blameOf_L34 kbX8_blameOf_L34
      rw [hH.1]
      simp only [if_neg (nI_ge cl (show fa_cnt P M < 2 ^ 31 by omega)), lt, nI_1, restB, pi, if_true]
      obtain ⟨r1, r2⟩ := bi_L h hc hi hw pi hH hs (pX8_blameOf_L34 n) (kX8_blameOf_L34 n) (M - (i + 1)) (i + 1) fu rfl (by omega) (by have := fu_ge; omega) a
      rw [cy] at r1 r2
      have q := ih (i + 1) n (by omega) (by omega) (by omega) (a + (fa_cnt (badI S P c w i) M - fa_cnt (badI S P c w i) (i + 1)))
      rw [cy, Nat.add_assoc] at q
      rw [r1]
      exact ⟨q.1, r2 q.2⟩
    · have cn := fa_cnt_no (p := P) (n := i) (by simpa using pi)
      have r := ih (i + 1) n (by omega) (by omega) (by omega) a
      rw [cn] at r
      simp only [restB, if_neg pi, Nat.zero_add]
      exact r
theorem cnt_zero {p : Nat → Bool} : ∀ {i M : Nat}, i ≤ M → (∀ j, i ≤ j → j < M → p j = false) → fa_cnt p M = fa_cnt p i := by
  intro i M
  induction M with
  | zero => intro h _; rw [show i = 0 by omega]
  | succ M ih =>
    intro h hp
    by_cases e : i = M + 1
    · rw [e]
    · rw [fa_cnt_no (hp M (by omega) (by omega))]
      exact ih (by omega) (fun j h1 h2 => hp j h1 (by omega))
theorem cnt_diff {p q : Nat → Bool} : ∀ {i M : Nat}, i ≤ M → (∀ j, i ≤ j → j < M → p j = q j) → fa_cnt p M - fa_cnt p i = fa_cnt q M - fa_cnt q i := by
  intro i M
  induction M with
  | zero => intro h _; rw [show i = 0 by omega]; omega
  | succ M ih =>
    intro h hp
    by_cases e : i = M + 1
    · rw [e]; omega
    · have r := ih (by omega) (fun j h1 h2 => hp j h1 (by omega))
      have a := cnt_mono p (show i ≤ M by omega)
      have c := cnt_mono q (show i ≤ M by omega)
      have d1 : fa_cnt p (M + 1) = fa_cnt p M + if p M = true then 1 else 0 := rfl
      have d2 : fa_cnt q (M + 1) = fa_cnt q M + if q M = true then 1 else 0 := rfl
      rw [hp M (by omega) (by omega)] at d1
      omega
theorem rest_eq (h : BR C R M W N b S) {P : Nat → Bool} {c w : Nat} (hc : c < C * R) (hw : w < M) : ∀ (d i : Nat), M - i = d → i ≤ M → restB S P M c w d i = if i ≤ w then fa_cnt (badB S P c w) M - fa_cnt (badB S P c w) i else 0 := by
  intro d
  induction d with
  | zero =>
    intro i h1 h2
    rw [if_neg (by omega)]
    rfl
  | succ d ih =>
    intro i h1 h2
    have hi : i < M := by omega
    show (if P i = true then fa_cnt (badI S P c w i) M - fa_cnt (badI S P c w i) (i + 1) else 0) + restB S P M c w d (i + 1) = _
    rw [ih (i + 1) (by omega) (by omega)]
    have bm := cnt_mono (badB S P c w) (show i + 1 ≤ M from hi)
    by_cases c1 : i < w
    · rw [if_pos (show i + 1 ≤ w by omega), if_pos (show i ≤ w by omega)]
      -- the inner loop counts the pair of i and w alone
      have one : fa_cnt (badI S P c w i) M - fa_cnt (badI S P c w i) (i + 1) = if badI S P c w i w = true then 1 else 0 := by
        have z1 := cnt_zero (p := badI S P c w i) (i := i + 1) (M := w) (by omega) (fun j j1 j2 => by
          unfold badI
          simp [show ¬ i = w by omega, show ¬ j = w by omega])
        have z2 := cnt_zero (p := badI S P c w i) (i := w + 1) (M := M) (by omega) (fun j j1 j2 => by
          unfold badI
          simp [show ¬ i = w by omega, show ¬ j = w by omega])
        have z3 : fa_cnt (badI S P c w i) (w + 1) = fa_cnt (badI S P c w i) w + if badI S P c w i w = true then 1 else 0 := rfl
        omega
      have eb : (if P i = true then if badI S P c w i w = true then 1 else 0 else 0) = if badB S P c w i = true then 1 else 0 := by
        have sy := gpS_sym h hc hi hw
        unfold badI badB
        rw [sy]
        by_cases pi : P i = true
        · by_cases pw : P w = true
          · simp [pi, pw, show ¬ i = w by omega]
          · simp [pi, pw]
        · simp [pi]
      rw [one, eb]
      have z3 : fa_cnt (badB S P c w) (i + 1) = fa_cnt (badB S P c w) i + if badB S P c w i = true then 1 else 0 := rfl
      omega
    · by_cases c2 : i = w
      · rw [if_neg (show ¬ i + 1 ≤ w by omega), if_pos (show i ≤ w by omega), Nat.add_zero]
        have bw : badB S P c w i = false := by unfold badB; simp [c2]
        have e0 := fa_cnt_no bw
        by_cases pi : P i = true
        · rw [if_pos pi]
          have ed := cnt_diff (p := badI S P c w i) (q := badB S P c w) (i := i + 1) (M := M) (by omega) (fun j j1 j2 => by
            unfold badI badB
            rw [c2] at pi ⊢
            simp [pi, show ¬ j = w by omega])
          rw [ed, e0]
        · rw [if_neg pi]
          have z := cnt_zero (p := badB S P c w) (i := i) (M := M) (by omega) (fun j j1 j2 => by
            unfold badB
            rw [c2] at pi
            simp [pi])
          omega
      · rw [if_neg (show ¬ i + 1 ≤ w by omega), if_neg (show ¬ i ≤ w by omega), Nat.add_zero]
        have z := cnt_zero (p := badI S P c w i) (i := i + 1) (M := M) (by omega) (fun j j1 j2 => by
          unfold badI
          simp [c2, show ¬ j = w by omega])
        split <;> omega
theorem blame_c (h : BR C R M W N b S) {P : Nat → Bool} (hPh : ∀ i, i < M → P i = true → hasP S i = true) {s : SS} (hV : SV S P M (C * R) s) {w : Nat} (hw : w < M) : ∃ F, pX8_blameOf s b (nI w) = (blameQ S P M (C * R) w, (if s.1 1 = -1000000000 then s else ssa s 3 F), b) ∧ kX8_blameOf s b (nI w) := by
  have hl := h.le
  have hCR0 : 2 * 2 ≤ C * R := Nat.mul_le_mul (by omega) (by omega)
  have hCR : C * R ≤ 20 * 20 := Nat.mul_le_mul (by omega) (by omega)
  unfold pX8_blameOf kX8_blameOf blameQ
  by_cases e : tri (fa_cnt P M) = 0
  · have e1 := (hV.2.2.1 e).1
    simp only [e1, if_pos e, if_true]
    exact ⟨s.2 3, trivial, trivial⟩
  · have hq : bestQ S P M (C * R) < C * R := bestQ_lt (by omega)
    have e1 := (hV.2.2.2 e).1
    obtain ⟨F, f1, f2, f3⟩ := trace_eq h hq hPh hV.1
    obtain ⟨s1, s2⟩ := setting_eq (i := 6) (ii := 6) h rfl (by omega)
    have s1 : pX2_setting b 6 = S 13 := s1
    have r := bo_L h hq hw (s := ssa s 3 F) ⟨hV.1.1, hV.1.2⟩ f3 M 0 fu (by omega) (by omega) (by have := fu_ge; have := fa_cnt_le P M; omega) 0
    rw [rest_eq h hq hw M 0 (by omega) (by omega), if_pos (by omega), Nat.zero_add, show fa_cnt (badB S P (bestQ S P M (C * R)) w) 0 = 0 from rfl, Nat.sub_zero] at r
    simp only [e1, if_neg e, if_neg (nI_nNO (j := bestQ S P M (C * R)) (by omega)), lt, f1, s1]
    exact ⟨F, r.1, f2, s2, r.2⟩
end FIND
