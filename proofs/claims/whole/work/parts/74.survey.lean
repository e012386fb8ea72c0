/-! PURE: votes and errors of a cell -/
section SURVEY
variable {C R M W N : Nat} {b b' : BS} {S S' : Nat → Int32} {m : MS}
def nt (S : Nat → Int32) (i : Nat) : Int32 := S (14 + 10 * i + 5)
def mS (S : Nat → Int32) : MS := (fun _ => 0, fun _ => 0, fun _ => S)
noncomputable def tf (S : Nat → Int32) (c i : Nat) : Int32 := pX12_timeFrom (mS S) (nI c) (nI i)
theorem timeFrom_S {m m' : MS} (h : m'.2.2 0 = m.2.2 0) (c i : Int32) : pX12_timeFrom m' c i = pX12_timeFrom m c i ∧ kX12_timeFrom m' c i = kX12_timeFrom m c i := by
  unfold pX12_timeFrom kX12_timeFrom pX12_timeOf kX12_timeOf pX12_wayTo kX12_wayTo pX12_of kX12_of
  rw [h]
  exact ⟨rfl, rfl⟩
theorem tf_eq (h : BR C R M W N b S) {c i : Nat} (hc : c < C * R) (hi : i < M) : ∃ T : Nat, T ≤ 300000 ∧ tf S c i = nI T ∧ pX2_timeFromCell b (nI c) (nI i) = tf S c i ∧ kX2_timeFromCell b (nI c) (nI i) ∧ ∀ m : MS, m.2.2 0 = S → pX12_timeFrom m (nI c) (nI i) = tf S c i ∧ kX12_timeFrom m (nI c) (nI i) := by
  obtain ⟨T, t1, t2, t3, t4, t5⟩ := from_eq (m := mS S) h hc hi
  refine ⟨T, t1, t3, t2.trans t3.symm, t4, fun m hm => ?_⟩
  have e := timeFrom_S (m := mS S) (m' := m) hm (nI c) (nI i)
  rw [e.1, e.2]
  exact ⟨rfl, t5⟩
abbrev A3 : Type := Int32 × Int32 × Int32
def st3 (tol g : Int32) (a : A3) : A3 := (a.1 + bz (!decide (tol < g)), a.2.1 + g, a.2.2 + 1)
def inS (P : Nat → Bool) (g : Nat → Int32) (tol : Int32) : Nat → Nat → A3 → A3
  | 0 => fun _ a => a
  | d + 1 => fun j a => inS P g tol d (j + 1) (if P j = true then st3 tol (g j) a else a)
def outS (P : Nat → Bool) (G : Nat → Nat → Int32) (tol : Int32) (M : Nat) : Nat → Nat → A3 → A3
  | 0 => fun _ a => a
  | d + 1 => fun i a => outS P G tol M d (i + 1) (if P i = true then inS P (G i) tol (M - (i + 1)) (i + 1) a else a)
noncomputable def gpS (S : Nat → Int32) (c i j : Nat) : Int32 := pX12_apart (nt S i - nt S j) (tf S c i - tf S c j)
noncomputable def VE (S : Nat → Int32) (P : Nat → Bool) (M c : Nat) : A3 := outS P (gpS S c) (S 13) M M 0 (0, 0, 0)
/-- the reference's state while it counts a cell -/
def stV (m : MS) (c : Nat) (a : A3) : MS := msi (msa (msa m 9 (upd (m.2.2 9) c a.1)) 10 (upd (m.2.2 10) c a.2.1)) 6 a.2.2
theorem updA_4 (f : Nat → Nat → Int32) (a b c d : Nat → Int32) : updA (updA (updA (updA f 9 a) 10 b) 9 c) 10 d = updA (updA f 9 c) 10 d := by
  funext j
  unfold updA
  by_cases h10 : j = 10
  · simp [h10]
  · by_cases h9 : j = 9
    · simp [h9]
    · simp [h10, h9]
theorem stV_9 (m : MS) (c : Nat) (a : A3) : (stV m c a).2.2 9 = upd (m.2.2 9) c a.1 := rfl
theorem stV_10 (m : MS) (c : Nat) (a : A3) : (stV m c a).2.2 10 = upd (m.2.2 10) c a.2.1 := rfl
theorem stV_0 (m : MS) (c : Nat) (a : A3) : (stV m c a).2.2 0 = m.2.2 0 := rfl
theorem stV_11 (m : MS) (c : Nat) (a : A3) : (stV m c a).2.2 11 = m.2.2 11 := rfl
theorem stV_6 (m : MS) (c : Nat) (a : A3) : (stV m c a).1 6 = a.2.2 := rfl
theorem stV_step (m : MS) (c : Nat) (a : A3) (x y z : Int32) : msi (msa (msa (stV m c a) 9 (upd ((stV m c a).2.2 9) c x)) 10 (upd ((stV m c a).2.2 10) c y)) 6 z = stV m c (x, y, z) := by
  rw [stV_9, stV_10, upd_upd, upd_upd]
  unfold stV msi msa
  show (upd (upd m.1 6 _) 6 z, m.2.1, updA (updA (updA (updA m.2.2 9 _) 10 _) 9 _) 10 _) = _
  rw [upd_upd, updA_4]
theorem l145_eq {c : Nat} (hc : c < 400) {q51 : Int32 → Int32 → Int32 → MS → MS} {Q51 : Int32 → Int32 → Int32 → MS → Prop} {q66 : Int32 → Int32 → Int32 → Int32 → MS → MS} {Q66 : Int32 → Int32 → Int32 → Int32 → MS → Prop} {v2 v3 v4 x t2 : Int32} {t3 : Bool} {a : A3} (ht : t2 = a.1) :
    pX12_votesAt_L145 q51 q66 (nI c) v2 v3 v4 x (nI c) t2 t3 (stV m c a) = q66 (nI c) v2 v3 (v4 + 1) (stV m c (a.1 + bz t3, a.2.1 + x, a.2.2 + 1)) ∧ (Q66 (nI c) v2 v3 (v4 + 1) (stV m c (a.1 + bz t3, a.2.1 + x, a.2.2 + 1)) → kX12_votesAt_L145 Q51 Q66 (nI c) v2 v3 v4 x (nI c) t2 t3 (stV m c a)) := by
  subst ht
  have V : vp_in (nI c) 400 := vp_in_n hc (by omega)
  have e := stV_step m c a (a.1 + bz t3) (a.2.1 + x) (a.2.2 + 1)
  have e10 : (msa (stV m c a) 9 (upd ((stV m c a).2.2 9) c (a.1 + bz t3))).2.2 10 = (stV m c a).2.2 10 := rfl
  have e10c : (stV m c a).2.2 10 c = a.2.1 := by rw [stV_10, upd_eq]
  have e6 : (msa (msa (stV m c a) 9 (upd ((stV m c a).2.2 9) c (a.1 + bz t3))) 10 (upd ((stV m c a).2.2 10) c (a.2.1 + x))).1 6 = a.2.2 := rfl
  unfold pX12_votesAt_L145 kX12_votesAt_L145 pX12_votesAt_L168 kX12_votesAt_L168
  simp only [lt, nI_clamp (show c < 2 ^ 31 by omega)]
  rw [e10, e10c, e6, e]
  exact ⟨rfl, fun h => ⟨V, V, V, h⟩⟩
theorem pair_eq {i j : Nat} (hi : i < M) (hj : j < M) (hM : M ≤ 8) {wo : Int32} {P : Nat → Bool} (hP : ∀ j, j < M → P j = (hasP (m.2.2 0) j && decide (nI j ≠ wo))) : pX12_arePair m (nI i) (nI j) wo = (P i && P j) ∧ kX12_arePair m (nI i) (nI j) wo := by
  obtain ⟨a1, a2⟩ := of_eq (m := m) (i := i) (k := 4) (kk := 4) rfl (by omega) (by omega)
  obtain ⟨b1, b2⟩ := of_eq (m := m) (i := j) (k := 4) (kk := 4) rfl (by omega) (by omega)
  rw [hP i hi, hP j hj]
  unfold pX12_arePair kX12_arePair hasP
  rw [a1, b1]
  by_cases e1 : nI i = wo
  · simp [e1]
  · by_cases e2 : nI j = wo
    · simp [e2]
    · by_cases e3 : m.2.2 0 (14 + 10 * i + 4) = 1
      · by_cases e4 : m.2.2 0 (14 + 10 * j + 4) = 1
        · simp [e1, e2, e3, e4, a2, b2]
        · simp [e1, e2, e3, e4, a2, b2]
      · simp [e1, e2, e3, a2]
theorem mi_L {c i : Nat} (h : BR C R M W N b (m.2.2 0)) (hc : c < C * R) (hi : i < M) {wo : Int32} {P : Nat → Bool} (hP : ∀ j, j < M → P j = (hasP (m.2.2 0) j && decide (nI j ≠ wo))) (hT : ∀ j, j < M → m.2.2 11 j = tf (m.2.2 0) c j) (q : Int32 → Int32 → Int32 → MS → MS) (Q : Int32 → Int32 → Int32 → MS → Prop) : ∀ (n j : Nat), j ≤ M → M - j < n → ∀ a : A3,
    pX12_votesAt_L66 q n (nI c) wo (nI i) (nI j) (stV m c a) = q (nI c) wo (nI (i + 1)) (stV m c (if P i = true then inS P (gpS (m.2.2 0) c i) (m.2.2 0 13) (M - j) j a else a)) ∧ (Q (nI c) wo (nI (i + 1)) (stV m c (if P i = true then inS P (gpS (m.2.2 0) c i) (m.2.2 0 13) (M - j) j a else a)) → kX12_votesAt_L66 Q n (nI c) wo (nI i) (nI j) (stV m c a)) := by
  have hl := h.le
  have hCR : C * R ≤ 20 * 20 := Nat.mul_le_mul (by omega) (by omega)
  intro n
  induction n with
  | zero => intro j h1 h2; omega
  | succ n ih =>
    intro j h1 h2 a
    show bX12_votesAt_L66 q (pX12_votesAt_L66 q n) _ _ _ _ _ = _ ∧ (_ → kbX12_votesAt_L66 Q (kX12_votesAt_L66 Q n) _ _ _ _ _)
    unfold bX12_votesAt_L66 kbX12_votesAt_L66
    rw [stV_0, h.eM]
    by_cases e : j = M
    · subst e
      simp only [if_pos (nI_le (Nat.le_refl j) (show j < 2 ^ 31 by omega)), lt, nI_1, Nat.sub_self, inS, ite_self]
      exact ⟨trivial, fun h => h⟩
    · have hj : j < M := by omega
      obtain ⟨p1, p2⟩ := pair_eq (m := stV m c a) hi hj hl.2.2.1 (wo := wo) (P := P) hP
      simp only [if_neg (nI_ge hj (show M < 2 ^ 31 by omega)), p1]
      have hd : M - j = M - (j + 1) + 1 := by omega
      obtain ⟨o1, o2⟩ := of_eq (m := stV m c a) (i := i) (k := 5) (kk := 5) rfl (by omega) (by omega)
      obtain ⟨o3, o4⟩ := of_eq (m := stV m c a) (i := j) (k := 5) (kk := 5) rfl (by omega) (by omega)
      have t1 : m.2.2 11 i = tf (m.2.2 0) c i := hT i hi
      have t2 : m.2.2 11 j = tf (m.2.2 0) c j := hT j hj
      by_cases c2 : P i = true
      · by_cases c3 : P j = true
        · rw [hd]
          simp only [c2, c3, Bool.and_self, if_true, lt, o1, o3, stV_0, stV_11, nI_clamp (show i < 2 ^ 31 by omega), nI_clamp (show j < 2 ^ 31 by omega), nI_clamp (show c < 2 ^ 31 by omega), t1, t2, inS]
          have eg : pX12_apart (m.2.2 0 (14 + 10 * i + 5) - m.2.2 0 (14 + 10 * j + 5)) (tf (m.2.2 0) c i - tf (m.2.2 0) c j) = gpS (m.2.2 0) c i j := rfl
          rw [eg]
          have V8i : vp_in (nI i) 8 := vp_in_n (by omega) (by omega)
          have V8j : vp_in (nI j) 8 := vp_in_n (by omega) (by omega)
          have Vc : vp_in (nI c) 400 := vp_in_n (by omega) (by omega)
          have e9 : (stV m c a).2.2 9 c = a.1 := by rw [stV_9, upd_eq]
          have L := fun (t3 : Bool) => l145_eq (m := m) (c := c) (a := a) (t3 := t3) (show c < 400 by omega) (q51 := q) (Q51 := Q) (q66 := pX12_votesAt_L66 q n) (Q66 := kX12_votesAt_L66 Q n) (v2 := wo) (v3 := nI i) (v4 := nI j) (x := gpS (m.2.2 0) c i j) e9
          by_cases c4 : m.2.2 0 13 < gpS (m.2.2 0) c i j
          · have es : st3 (m.2.2 0 13) (gpS (m.2.2 0) c i j) a = (a.1 + bz false, a.2.1 + gpS (m.2.2 0) c i j, a.2.2 + 1) := by unfold st3; simp [c4]
            simp only [if_pos c4]
            rw [(L false).1, nI_1, es]
            have r := ih (j + 1) (by omega) (by omega) (a.1 + bz false, a.2.1 + gpS (m.2.2 0) c i j, a.2.2 + 1)
            rw [if_pos c2] at r
            exact ⟨r.1, fun hq => ⟨p2, o2, o4, V8i, V8j, Vc, (L false).2 (by rw [nI_1]; exact r.2 hq)⟩⟩
          · have es : st3 (m.2.2 0 13) (gpS (m.2.2 0) c i j) a = (a.1 + bz true, a.2.1 + gpS (m.2.2 0) c i j, a.2.2 + 1) := by unfold st3; simp [c4]
            simp only [if_neg c4]
            rw [(L true).1, nI_1, es]
            have r := ih (j + 1) (by omega) (by omega) (a.1 + bz true, a.2.1 + gpS (m.2.2 0) c i j, a.2.2 + 1)
            rw [if_pos c2] at r
            exact ⟨r.1, fun hq => ⟨p2, o2, o4, V8i, V8j, Vc, (L true).2 (by rw [nI_1]; exact r.2 hq)⟩⟩
        · have r := ih (j + 1) (by omega) (by omega) a
          rw [if_pos c2] at r
          rw [hd]
          simp only [c2, c3, Bool.and_false, Bool.false_eq_true, if_false, if_true, inS]
          unfold pX12_votesAt_L168 kX12_votesAt_L168
          simp only [lt, nI_1]
          exact ⟨r.1, fun hq => ⟨p2, r.2 hq⟩⟩
      · have r := ih (j + 1) (by omega) (by omega) a
        rw [if_neg c2] at r
        simp only [c2, Bool.false_and, Bool.false_eq_true, if_false]
        unfold pX12_votesAt_L168 kX12_votesAt_L168
        simp only [lt, nI_1]
        exact ⟨r.1, fun hq => ⟨p2, r.2 hq⟩⟩
theorem mo_L {c : Nat} (h : BR C R M W N b (m.2.2 0)) (hc : c < C * R) {wo : Int32} {P : Nat → Bool} (hP : ∀ j, j < M → P j = (hasP (m.2.2 0) j && decide (nI j ≠ wo))) (hT : ∀ j, j < M → m.2.2 11 j = tf (m.2.2 0) c j) : ∀ (n i : Nat), i ≤ M → M - i < n → ∀ a : A3, pX12_votesAt_L51 n (nI c) wo (nI i) (stV m c a) = stV m c (outS P (gpS (m.2.2 0) c) (m.2.2 0 13) M (M - i) i a) ∧ kX12_votesAt_L51 n (nI c) wo (nI i) (stV m c a) := by
  have hl := h.le
  intro n
  induction n with
  | zero => intro j h1 h2; omega
  | succ n ih =>
    intro i h1 h2 a
    show bX12_votesAt_L51 (pX12_votesAt_L51 n) _ _ _ _ = _ ∧ kbX12_votesAt_L51 (kX12_votesAt_L51 n) _ _ _ _
    unfold bX12_votesAt_L51 kbX12_votesAt_L51
    rw [stV_0, h.eM]
    by_cases e : i = M
    · subst e
      simp only [if_pos (nI_le (Nat.le_refl i) (show i < 2 ^ 31 by omega)), Nat.sub_self, outS]
      exact ⟨trivial, trivial⟩
    · have hi : i < M := by omega
      simp only [if_neg (nI_ge hi (show M < 2 ^ 31 by omega)), lt, nI_1]
      obtain ⟨r1, r2⟩ := mi_L h hc hi hP hT (pX12_votesAt_L51 n) (kX12_votesAt_L51 n) fu (i + 1) (by omega) (by have := fu_ge; omega) a
      have q := ih (i + 1) (by omega) (by omega) (if P i = true then inS P (gpS (m.2.2 0) c i) (m.2.2 0 13) (M - (i + 1)) (i + 1) a else a)
      rw [show M - i = M - (i + 1) + 1 by omega, r1]
      exact ⟨q.1, r2 q.2⟩
/-- states that differ in what is counted alone -/
def cnts (m m' : MS) : Prop := ∃ (z : Int32) (f9 f10 f11 : Nat → Int32), m' = msi (msa (msa (msa m 9 f9) 10 f10) 11 f11) 6 z
theorem ti_L {c : Nat} (hc : c < C * R) (wo : Int32) : ∀ (n i : Nat), i ≤ M → M - i < n → ∀ (m : MS), BR C R M W N b (m.2.2 0) → ∃ F, (∀ j, j < M → i ≤ j → F j = tf (m.2.2 0) c j) ∧ (∀ j, j < i → F j = m.2.2 11 j) ∧ pX12_votesAt_L2 n (nI c) wo (nI i) m = pX12_votesAt_L51 fu (nI c) wo 0 (stV (msa m 11 F) c (0, 0, 0)) ∧ (kX12_votesAt_L51 fu (nI c) wo 0 (stV (msa m 11 F) c (0, 0, 0)) → kX12_votesAt_L2 n (nI c) wo (nI i) m) := by
  intro n
  induction n with
  | zero => intro i h1 h2; omega
  | succ n ih =>
    intro i h1 h2 m h
    have hl := h.le
    have hCR : C * R ≤ 20 * 20 := Nat.mul_le_mul (by omega) (by omega)
    have Vc : vp_in (nI c) 400 := vp_in_n (by omega) (by omega)
    show ∃ F, _ ∧ _ ∧ bX12_votesAt_L2 (pX12_votesAt_L2 n) _ _ _ _ = _ ∧ (_ → kbX12_votesAt_L2 (kX12_votesAt_L2 n) _ _ _ _)
    unfold bX12_votesAt_L2 kbX12_votesAt_L2
    rw [h.eM]
    by_cases e : i = M
    · subst e
      simp only [if_pos (nI_le (Nat.le_refl i) (show i < 2 ^ 31 by omega)), lt, nI_clamp (show c < 2 ^ 31 by omega)]
      refine ⟨m.2.2 11, fun j j1 j2 => by omega, fun j hj => rfl, ?_, fun hk => ⟨Vc, Vc, ?_⟩⟩
      · rw [show msa m 11 (m.2.2 11) = m by unfold msa; rw [updA_self]]
        rfl
      · rw [show msa m 11 (m.2.2 11) = m by unfold msa; rw [updA_self]] at hk
        exact hk
    · have hi : i < M := by omega
      obtain ⟨T, T1, T2, T3, T4, T5⟩ := tf_eq h hc hi
      obtain ⟨T6, T7⟩ := T5 m rfl
      simp only [if_neg (nI_ge hi (show M < 2 ^ 31 by omega)), lt, nI_1, T6, nI_clamp (show i < 2 ^ 31 by omega)]
      obtain ⟨F, f1, f2, f3, f4⟩ := ih (i + 1) (by omega) (by omega) (msa m 11 (upd (m.2.2 11) i (tf (m.2.2 0) c i))) h
      rw [msa_msa] at f3 f4
      have f2 : ∀ j, j < i + 1 → F j = upd (m.2.2 11) i (tf (m.2.2 0) c i) j := f2
      refine ⟨F, fun j j1 j2 => ?_, fun j hj => ?_, f3, fun hk => ⟨T7, vp_in_n (by omega) (by omega), f4 hk⟩⟩
      · by_cases c2 : j = i
        · rw [c2, f2 i (by omega), upd_eq]
        · exact f1 j j1 (by omega)
      · rw [f2 j (by omega), upd_ne _ _ (by omega)]
theorem votesAt_eq {c : Nat} (h : BR C R M W N b (m.2.2 0)) (hc : c < C * R) {wo : Int32} {P : Nat → Bool} (hP : ∀ j, j < M → P j = (hasP (m.2.2 0) j && decide (nI j ≠ wo))) : ∃ F, pX12_votesAt m (nI c) wo = stV (msa m 11 F) c (VE (m.2.2 0) P M c) ∧ kX12_votesAt m (nI c) wo := by
  have hl := h.le
  obtain ⟨F, f1, -, f3, f4⟩ := ti_L hc wo fu 0 (by omega) (by have := fu_ge; omega) m h
  obtain ⟨g1, g2⟩ := mo_L (m := msa m 11 F) h hc (wo := wo) (P := P) hP (fun j hj => f1 j hj (by omega)) fu 0 (by omega) (by have := fu_ge; omega) (0, 0, 0)
  refine ⟨F, ?_, ?_⟩
  · unfold pX12_votesAt
    rw [show (0 : Int32) = nI 0 from rfl, f3]
    exact g1
  · unfold kX12_votesAt
    exact f4 g2
end SURVEY
