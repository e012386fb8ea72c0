/-! PURE: a click that is known -/
section KNOWN
variable {C R M W N : Nat} {b b' b2 : BS} {g g' g2 m m' w a : Nat → Int32}
noncomputable def Dl (g m : Nat → Int32) (x y : Int32) (i : Nat) : Int32 := pL_root ((x - m (10 * i + 0)) * (x - m (10 * i + 0)) + (y - m (10 * i + 1)) * (y - m (10 * i + 1))) * 1000 / g 7
theorem dl_eq (h : BR C R M W N b g m w) {i : Nat} (hi : i < M) {x y : Int32} (hx : rg x (-1000) 3000) (hy : rg y (-1000) 3000) : ∃ T : Nat, T ≤ 300000 ∧ Dl g m x y i = nI T ∧ kL_root ((x - m (10 * i + 0)) * (x - m (10 * i + 0)) + (y - m (10 * i + 1)) * (y - m (10 * i + 1))) ∧ pX2_timeFor b (pX2_wayTo b (nI i) x y) = nI T ∧ kX2_timeFor b (pX2_wayTo b (nI i) x y) ∧ kX2_wayTo b (nI i) x y := by
  obtain ⟨r, r1, r2, r3, r4, r5⟩ := way_to h hi (x := x) (y := y) ⟨by have := hx.1; omega, by have := hx.2; omega⟩ ⟨by have := hy.1; omega, by have := hy.2; omega⟩
  obtain ⟨T, t1, t2, t3, t4⟩ := time_eq h r1
  refine ⟨T, t1, ?_, r5, ?_, ?_, r4⟩
  · unfold Dl
    rw [r3, t3]
  · rw [r2, t2]
  · rw [r2]
    exact t4
theorem dl_cong {x y : Int32} {i : Nat} (h7 : g' 7 = g 7) (e0 : m' (10 * i + 0) = m (10 * i + 0)) (e1 : m' (10 * i + 1) = m (10 * i + 1)) : Dl g' m' x y i = Dl g m x y i := by
  unfold Dl
  rw [h7, e0, e1]
/-- a microphone's row behind a known click; D: when the click was due -/
def rowK (b' : BS) (m m' : Nat → Int32) (D : Int32) (i : Nat) : Prop := (∀ c, c < 4 → m' (10 * i + c) = m (10 * i + c)) ∧ (∀ c, c < 4 → b'.2 0 (i * 9 + (5 + c)) = m' (10 * i + (6 + c))) ∧ ((m' (10 * i + 4) = 1 ∧ b'.2 0 (i * 9 + 3) = m' (10 * i + 5) - D ∧ b'.2 0 (i * 9 + 4) = D ∧ rg (m' (10 * i + 5)) (-1000) 402000) ∨ (m' (10 * i + 4) = 0 ∧ b'.2 0 (i * 9 + 3) = 0 ∧ b'.2 0 (i * 9 + 4) = -1000000000 ∧ m' (10 * i + 5) = 0 ∧ ∀ c, c < 4 → m' (10 * i + (6 + c)) = -1000000000))
theorem rowK.cong {b3 : BS} {m9 m3 : Nat → Int32} {D : Int32} {i : Nat} (h : rowK b' m m' D i) (eb : ∀ c, c < 9 → b3.2 0 (i * 9 + c) = b'.2 0 (i * 9 + c)) (em : ∀ c, c < 10 → m3 (10 * i + c) = m' (10 * i + c)) (e0 : ∀ c, c < 4 → m9 (10 * i + c) = m (10 * i + c)) : rowK b3 m9 m3 D i := by
  obtain ⟨h1, h2, h3⟩ := h
  refine ⟨fun c hc => ?_, fun c hc => ?_, ?_⟩
  · rw [em c (by omega), e0 c hc]
    exact h1 c hc
  · rw [eb (5 + c) (by omega), em (6 + c) (by omega)]
    exact h2 c hc
  · rw [em 4 (by omega), em 5 (by omega), eb 4 (by omega), eb 3 (by omega)]
    rcases h3 with h3 | ⟨h3, h4, h5, h6, h7⟩
    · exact Or.inl h3
    · refine Or.inr ⟨h3, h4, h5, h6, fun c hc => ?_⟩
      rw [em (6 + c) (by omega)]
      exact h7 c hc
/-- counting up -/
def cntT (P : Nat → Bool) : Nat → Nat → Int32 → Int32
  | 0, _, z => z
  | e + 1, k, z => cntT P e (k + 1) (z + bz (P k))
theorem cntT_cong {P Q : Nat → Bool} : ∀ (e k : Nat) (z : Int32), (∀ i, k ≤ i → i < k + e → P i = Q i) → cntT P e k z = cntT Q e k z
  | 0, _, _, _ => rfl
  | e + 1, k, z, h => by
    unfold cntT
    rw [h k (by omega) (by omega)]
    exact cntT_cong e (k + 1) _ (fun i h1 h2 => h i (by omega) (by omega))
def chgP (b b' : BS) (i : Nat) : Bool := decide (¬ b'.2 0 (i * 9 + 3) = b.2 0 (i * 9 + 3))
theorem known_L {x y time : Int32} (hx : rg x (-1000) 3000) (hy : rg y (-1000) 3000) (ht : rg time 0 100000) : ∀ (n k : Nat), k ≤ M → M - k < n → ∀ (t : TS) (a g m : Nat → Int32) (b : BS) (nz nl : Int32), BR C R M W N b g m w →
    ∃ (cl : Int32) (t' : TS) (b' : BS) (g' m' : Nat → Int32), pX6_hearKnownClick_L12 n x y time nz (nI k) t b = (cntT (chgP b b') (M - k) k nz, t', b') ∧ kX6_hearKnownClick_L12 n x y time nz (nI k) t b ∧ pL_hears_L12 w n x y time nl (nI k) g m a = (cl, g', m') ∧ kL_hears_L12 w n x y time nl (nI k) g m a ∧ BR C R M W N b' g' m' w ∧
      (∀ i, k ≤ i → i < M → rowK b' m m' (time + Dl g m x y i) i) ∧ (∀ i, i < k → (∀ c, c < 9 → b'.2 0 (i * 9 + c) = b.2 0 (i * 9 + c)) ∧ (∀ c, c < 10 → m' (10 * i + c) = m (10 * i + c))) ∧ (∀ q, q ≠ 5 → q ≠ 6 → g' q = g q) ∧ g' 5 = g 5 + 1 := by
  intro n
  induction n with
  | zero => intro k h1 h2; omega
  | succ n ih =>
    intro k h1 h2 t a g m b nz nl h
    have hl := h.le
    show ∃ (cl : Int32) (t' : TS) (b' : BS) (g' m' : Nat → Int32), bX6_hearKnownClick_L12 (pX6_hearKnownClick_L12 n) _ _ _ _ _ _ _ = _ ∧ kbX6_hearKnownClick_L12 (kX6_hearKnownClick_L12 n) _ _ _ _ _ _ _ ∧ bL_hears_L12 w (pL_hears_L12 w n) _ _ _ _ _ _ _ _ = _ ∧ kbL_hears_L12 w (kL_hears_L12 w n) _ _ _ _ _ _ _ _ ∧ _
    unfold bX6_hearKnownClick_L12 kbX6_hearKnownClick_L12 bL_hears_L12 kbL_hears_L12
    rw [h.b4, h.eM]
    by_cases e : k = M
    · subst e
      simp only [if_pos (nI_le (Nat.le_refl k) (show k < 2 ^ 31 by omega)), lt]
      rw [h.b2]
      refine ⟨nl, t, _, _, m, ?_, trivial, rfl, trivial, h.s5 _, fun i hi hi2 => by omega, fun i hi => ⟨fun c hc => rfl, fun c hc => rfl⟩, fun q h5 h6 => upd_ne _ _ h5, upd_eq _ _ _⟩
      rw [Nat.sub_self]
      rfl
    · have hk : k < M := by omega
      simp only [if_neg (nI_ge hk (show M < 2 ^ 31 by omega))]
      obtain ⟨e1, e2⟩ := at9 (k := 3) (kk := 3) h rfl hk (by omega)
      rw [h.b4] at e1 e2
      obtain ⟨u1, u2⟩ := put9 (k := 3) (kk := 3) (x := 0) (f := b.2 0) h rfl hk (by omega)
      have hZ : BR C R M W N (bst b 0 (nI M, upd (b.2 0) (k * 9 + 3) 0)) g m w := h.rows (fun i hi c hc => upd_ne _ _ (by omega)) (fun i hi c hc => rfl)
      obtain ⟨t1, b1, g1, a1, has, note, Tm, c0, c1, c2, c3, p1, p2, p3, p4, p5, p6, p7, p8, p9, p10⟩ := mic_eq hZ hk hx hy ht t a (pL_hears_L12 w n) (kL_hears_L12 w n) nl
      have ez : (bst b 0 (nI M, upd (b.2 0) (k * 9 + 3) 0)).2 0 = upd (b.2 0) (k * 9 + 3) 0 := rfl
      have ez3 : (bst b 0 (nI M, upd (b.2 0) (k * 9 + 3) 0)).2 0 (k * 9 + 3) = 0 := upd_eq _ _ _
      have z0 : rg (0 : Int32) (-500000) 500000 := ⟨by decide, by decide⟩
      obtain ⟨q1, q2⟩ := noted_is hZ hk (by rw [ez3]; exact z0) p7 p5
      rw [ez3] at p7
      have e2' := p6.e2
      obtain ⟨F, hF⟩ : ∃ F, F = row5 ((bst b 0 (nI M, upd (b.2 0) (k * 9 + 3) 0)).2 0) (k * 9) note c0 c1 c2 c3 := ⟨_, rfl⟩
      have hB := p5.noted e2' (i := k) (bz has) note Tm c0 c1 c2 c3
      rw [← hF] at hB p3 q1 q2
      have hF3 : ∀ c, c < 3 → ∀ i, i < M → F (i * 9 + c) = b.2 0 (i * 9 + c) := fun c hc i hi => by
        rw [hF, row5_ne (by omega), ez, upd_ne _ _ (by omega)]
      have hFo : ∀ i c, i ≠ k → c < 9 → F (i * 9 + c) = b.2 0 (i * 9 + c) := fun i c hi hc => by
        rw [hF, row5_ne (by omega), ez, upd_ne _ _ (by omega)]
      have hFk3 : F (k * 9 + 3) = 0 := by rw [hF, row5_ne (by omega)]; exact ez3
      have hFk4 : F (k * 9 + 4) = note := by rw [hF]; exact row5_at.1
      have h7 : g1 7 = g 7 := p6.eg (by omega)
      obtain ⟨T, T1, T2, T3, T4, T5, T6⟩ := dl_eq hB hk hx hy
      rw [dl_cong (g := g) (m := m) h7 (row6_ne (by omega)) (row6_ne (by omega))] at T2
      -- the class's row at its end
      obtain ⟨v3, v4, G, hG, hv, hP, hKK, hb9⟩ : ∃ (v3 v4 : Int32) (G : Nat → Int32), G = upd (upd F (k * 9 + 3) v3) (k * 9 + 4) v4 ∧ ((has = true ∧ v3 = Tm - (time + Dl g m x y k) ∧ v4 = time + Dl g m x y k) ∨ (has = false ∧ v3 = 0 ∧ v4 = note)) ∧
          (∀ q : Int32 → Int32 → Int32 → Int32 → Int32 → TS → BS → (Int32 × TS × BS), (if pX2_hasNoted (bst b1 0 (nI M, F)) (nI k) = true then (lt (time + pX2_timeFor (bst b1 0 (nI M, F)) (pX2_wayTo (bst b1 0 (nI M, F)) (nI k) x y)) fun (x22 : Int32) => lt (pX9_put 8 9 72 ((bst b1 0 (nI M, F)).1 4, (bst b1 0 (nI M, F)).2 0) (nI k) 3 (pX9_at 8 9 72 ((bst b1 0 (nI M, F)).1 4, (bst b1 0 (nI M, F)).2 0) (nI k) 4 - x22)) fun (u26 : TS) => lt (pX9_put 8 9 72 ((bst (bst b1 0 (nI M, F)) 0 u26).1 4, (bst (bst b1 0 (nI M, F)) 0 u26).2 0) (nI k) 4 x22) fun (u29 : TS) => pX6_hearKnownClick_L117 q x y time nz (nI k) (b.2 0 (k * 9 + 3)) t1 (bst (bst (bst b1 0 (nI M, F)) 0 u26) 0 u29)) else pX6_hearKnownClick_L117 q x y time nz (nI k) (b.2 0 (k * 9 + 3)) t1 (bst b1 0 (nI M, F))) = pX6_hearKnownClick_L117 q x y time nz (nI k) (b.2 0 (k * 9 + 3)) t1 (bst b1 0 (nI M, G))) ∧
          (∀ Q : Int32 → Int32 → Int32 → Int32 → Int32 → TS → BS → Prop, kX6_hearKnownClick_L117 Q x y time nz (nI k) (b.2 0 (k * 9 + 3)) t1 (bst b1 0 (nI M, G)) → (if pX2_hasNoted (bst b1 0 (nI M, F)) (nI k) = true then kX2_wayTo (bst b1 0 (nI M, F)) (nI k) x y ∧ kX2_timeFor (bst b1 0 (nI M, F)) (pX2_wayTo (bst b1 0 (nI M, F)) (nI k) x y) ∧ (lt (time + pX2_timeFor (bst b1 0 (nI M, F)) (pX2_wayTo (bst b1 0 (nI M, F)) (nI k) x y)) fun (x22 : Int32) => kX9_at 8 9 72 ((bst b1 0 (nI M, F)).1 4, (bst b1 0 (nI M, F)).2 0) (nI k) 4 ∧ kX9_put 8 9 72 ((bst b1 0 (nI M, F)).1 4, (bst b1 0 (nI M, F)).2 0) (nI k) 3 (pX9_at 8 9 72 ((bst b1 0 (nI M, F)).1 4, (bst b1 0 (nI M, F)).2 0) (nI k) 4 - x22) ∧ (lt (pX9_put 8 9 72 ((bst b1 0 (nI M, F)).1 4, (bst b1 0 (nI M, F)).2 0) (nI k) 3 (pX9_at 8 9 72 ((bst b1 0 (nI M, F)).1 4, (bst b1 0 (nI M, F)).2 0) (nI k) 4 - x22)) fun (u26 : TS) => kX9_put 8 9 72 ((bst (bst b1 0 (nI M, F)) 0 u26).1 4, (bst (bst b1 0 (nI M, F)) 0 u26).2 0) (nI k) 4 x22 ∧ (lt (pX9_put 8 9 72 ((bst (bst b1 0 (nI M, F)) 0 u26).1 4, (bst (bst b1 0 (nI M, F)) 0 u26).2 0) (nI k) 4 x22) fun (u29 : TS) => kX6_hearKnownClick_L117 Q x y time nz (nI k) (b.2 0 (k * 9 + 3)) t1 (bst (bst (bst b1 0 (nI M, F)) 0 u26) 0 u29)))) else kX6_hearKnownClick_L117 Q x y time nz (nI k) (b.2 0 (k * 9 + 3)) t1 (bst b1 0 (nI M, F)))) ∧ True := by
        cases has with
        | true =>
          have eN : note = Tm := by
            rcases p7 with ⟨-, e3, -⟩ | ⟨e3, -⟩
            · rw [e3]; exact Int32.sub_zero _
            · cases e3
          obtain ⟨y1, y2⟩ := at9 (k := 4) (kk := 4) hB rfl hk (by omega)
          rw [bst_t0] at y1 y2
          have y1 : pX9_at 8 9 72 (nI M, F) (nI k) 4 = Tm := y1.trans (hFk4.trans eN)
          obtain ⟨w1, w2⟩ := put9 (k := 3) (kk := 3) (x := Tm - (time + nI T)) (f := F) hB rfl hk (by omega)
          obtain ⟨w3, w4⟩ := put9 (k := 4) (kk := 4) (x := time + nI T) (f := upd F (k * 9 + 3) (Tm - (time + nI T))) hB rfl hk (by omega)
          refine ⟨Tm - (time + nI T), time + nI T, _, rfl, Or.inl ⟨rfl, by rw [T2], by rw [T2]⟩, fun q => ?_, fun Q hQ => ?_, trivial⟩
          · simp only [if_pos q1, lt, T4, bst_t0, y1, w1, w3, bst_bst]
          · simp only [if_pos q1, lt, T4, bst_t0, y1, w1, w3, bst_bst]
            exact ⟨T6, T5, y2, w2, w4, hQ⟩
        | false =>
          have q1' : ¬ pX2_hasNoted (bst b1 0 (nI M, F)) (nI k) = true := by rw [q1]; decide
          have eF : upd (upd F (k * 9 + 3) 0) (k * 9 + 4) note = F := by
            rw [← hFk3, upd_self, ← hFk4, upd_self]
          refine ⟨0, note, _, rfl, Or.inr ⟨rfl, rfl, rfl⟩, fun q => ?_, fun Q hQ => ?_, trivial⟩
          · rw [if_neg q1', eF]
          · rw [if_neg q1']
            rw [eF] at hQ
            exact hQ
      clear hb9
      have hG3 : ∀ c, c < 3 → ∀ i, i < M → G (i * 9 + c) = b.2 0 (i * 9 + c) := fun c hc i hi => by
        rw [hG, upd_ne _ _ (by omega), upd_ne _ _ (by omega)]
        exact hF3 c hc i hi
      have hGo : ∀ i c, i ≠ k → c < 9 → G (i * 9 + c) = b.2 0 (i * 9 + c) := fun i c hi hc => by
        rw [hG, upd_ne _ _ (by omega), upd_ne _ _ (by omega)]
        exact hFo i c hi hc
      have hGk3 : G (k * 9 + 3) = v3 := by rw [hG, upd_ne _ _ (by omega), upd_eq]
      have hGk4 : G (k * 9 + 4) = v4 := by rw [hG, upd_eq]
      have hGB : BR C R M W N (bst b1 0 (nI M, G)) g1 (row6 m (10 * k) (bz has) Tm c0 c1 c2 c3) w := p5.rows (fun i hi c hc => by rw [hG3 c hc i hi, e2']; exact (upd_ne _ _ (by omega)).symm) (fun i hi c hc => row6_ne (by omega))
      obtain ⟨x1, x2⟩ := at9 (k := 3) (kk := 3) hGB rfl hk (by omega)
      have x1 : pX9_at 8 9 72 ((bst b1 0 (nI M, G)).1 4, (bst b1 0 (nI M, G)).2 0) (nI k) 3 = v3 := x1.trans hGk3
      have hrow : rowK (bst b1 0 (nI M, G)) m (row6 m (10 * k) (bz has) Tm c0 c1 c2 c3) (time + Dl g m x y k) k := by
        obtain ⟨d4, d5, d6, d7, d8, d9⟩ := row6_at (f := m) (a := 10 * k) (y0 := bz has) (x0 := Tm) (x1 := c0) (x2 := c1) (x3 := c2) (x4 := c3)
        have r5 := fun (f : Nat → Int32) => row5_at (f := f) (a := k * 9) (x0 := note) (x1 := c0) (x2 := c1) (x3 := c2) (x4 := c3)
        refine ⟨fun c hc => row6_ne (by omega), fun c hc => ?_, ?_⟩
        · show G (k * 9 + (5 + c)) = _
          rw [hG, upd_ne _ _ (by omega), upd_ne _ _ (by omega), hF]
          have hc' : c = 0 ∨ c = 1 ∨ c = 2 ∨ c = 3 := by omega
          rcases hc' with rfl | rfl | rfl | rfl
          · exact (r5 _).2.1.trans d6.symm
          · exact (r5 _).2.2.1.trans d7.symm
          · exact (r5 _).2.2.2.1.trans d8.symm
          · exact (r5 _).2.2.2.2.trans d9.symm
        · rw [d4, d5]
          rcases hv with ⟨rfl, f1, f2⟩ | ⟨rfl, f1, f2⟩
          · rcases p7 with ⟨-, e3, e4⟩ | ⟨e3, -⟩
            · exact Or.inl ⟨rfl, hGk3.trans f1, hGk4.trans f2, e4⟩
            · cases e3
          · rcases p7 with ⟨e3, -⟩ | ⟨-, e4, e5, e6, e7, e8, e9⟩
            · cases e3
            · refine Or.inr ⟨rfl, hGk3.trans f1, hGk4.trans (f2.trans e4), e5, fun c hc => ?_⟩
              have hc' : c = 0 ∨ c = 1 ∨ c = 2 ∨ c = 3 := by omega
              rcases hc' with rfl | rfl | rfl | rfl
              · exact d6.trans e6
              · exact d7.trans e7
              · exact d8.trans e8
              · exact d9.trans e9
      obtain ⟨cl, t', b', g', m', r1, r2, r3, r4, r5, r6, r7, r9, r10⟩ := ih (k + 1) (by omega) (by omega) t1 a1 g1 _ (bst b1 0 (nI M, G)) (nz + bz (decide (¬ v3 = b.2 0 (k * 9 + 3)))) (nl + bz has) hGB
      have hcnt : cntT (chgP (bst b1 0 (nI M, G)) b') (M - (k + 1)) (k + 1) (nz + bz (decide (¬ v3 = b.2 0 (k * 9 + 3)))) = cntT (chgP b b') (M - k) k nz := by
        rw [show M - k = M - (k + 1) + 1 by omega]
        have ek : chgP b b' k = decide (¬ v3 = b.2 0 (k * 9 + 3)) := by
          unfold chgP
          rw [(r7 k (by omega)).1 3 (by omega)]
          show decide (¬ G (k * 9 + 3) = _) = _
          rw [hGk3]
        show _ = cntT (chgP b b') (M - (k + 1)) (k + 1) (nz + bz (chgP b b' k))
        rw [ek]
        refine cntT_cong _ _ _ (fun i hi1 hi2 => ?_)
        unfold chgP
        rw [show (bst b1 0 (nI M, G)).2 0 (i * 9 + 3) = b.2 0 (i * 9 + 3) from hGo i 3 (by omega) (by omega)]
      have hrows : ∀ i, k ≤ i → i < M → rowK b' m m' (time + Dl g m x y i) i := by
        intro i hi hi2
        by_cases ei : i = k
        · subst ei
          obtain ⟨s1, s2⟩ := r7 i (by omega)
          exact hrow.cong s1 s2 (fun c hc => rfl)
        · have r := r6 i (by omega) hi2
          rw [dl_cong (g := g) (m := m) h7 (row6_ne (by omega)) (row6_ne (by omega))] at r
          exact r.cong (fun c hc => rfl) (fun c hc => rfl) (fun c hc => (row6_ne (by omega)).symm)
      have hold : ∀ i, i < k → (∀ c, c < 9 → b'.2 0 (i * 9 + c) = b.2 0 (i * 9 + c)) ∧ (∀ c, c < 10 → m' (10 * i + c) = m (10 * i + c)) := by
        intro i hi
        obtain ⟨s1, s2⟩ := r7 i (by omega)
        exact ⟨fun c hc => (s1 c hc).trans (hGo i c (by omega) hc), fun c hc => (s2 c hc).trans (row6_ne (by omega))⟩
      have hg : ∀ q, q ≠ 5 → q ≠ 6 → g' q = g q := fun q h5 h6 => (r9 q h5 h6).trans (p6.eg h6)
      have hg5 : g' 5 = g 5 + 1 := by rw [r10, p6.eg (by omega)]
      simp only [lt, e1, u1, p1, p3]
      simp only [lt] at hP hKK
      rw [p9, hP]
      unfold pX6_hearKnownClick_L117 pX6_hearKnownClick_L133
      rw [x1]
      simp only [lt, nI_1]
      refine ⟨cl, t', b', g', m', ?_, ⟨e2, u2, p2, p4, q2, ?_⟩, r3, ⟨p8, p10 r4⟩, r5, hrows, hold, hg, hg5⟩
      · rw [← hcnt]
        by_cases c9 : v3 = b.2 0 (k * 9 + 3)
        · rw [if_pos c9]
          rw [show (decide (¬ v3 = b.2 0 (k * 9 + 3))) = false from decide_eq_false (fun hn => hn c9), show nz + bz false = nz from Int32.add_zero _] at r1 ⊢
          exact r1
        · rw [if_neg c9]
          rw [show (decide (¬ v3 = b.2 0 (k * 9 + 3))) = true from decide_eq_true c9] at r1 ⊢
          exact r1
      · refine hKK _ ?_
        unfold kX6_hearKnownClick_L117 kX6_hearKnownClick_L133
        rw [x1]
        simp only [lt, nI_1]
        refine ⟨x2, ?_⟩
        by_cases c9 : v3 = b.2 0 (k * 9 + 3)
        · rw [if_pos c9]
          rw [show (decide (¬ v3 = b.2 0 (k * 9 + 3))) = false from decide_eq_false (fun hn => hn c9), show nz + bz false = nz from Int32.add_zero _] at r2
          exact r2
        · rw [if_neg c9]
          rw [show (decide (¬ v3 = b.2 0 (k * 9 + 3))) = true from decide_eq_true c9] at r2
          exact r2
theorem known_eq (h : BR C R M W N b g m w) {x y time : Int32} (hx : rg x (-1000) 3000) (hy : rg y (-1000) 3000) (ht : rg time 0 100000) (t : TS) :
    ∃ (cl : Int32) (t' : TS) (b' : BS) (g' m' : Nat → Int32), pX6_hearKnownClick t b x y time = (cntT (chgP b b') M 0 0, t', b') ∧ kX6_hearKnownClick t b x y time ∧ pL_hears g m w x y time = (cl, g', m') ∧ kL_hears g m w x y time ∧ BR C R M W N b' g' m' w ∧ (∀ i, i < M → rowK b' m m' (time + Dl g m x y i) i) ∧ (∀ q, q ≠ 5 → q ≠ 6 → g' q = g q) ∧ g' 5 = g 5 + 1 := by
  obtain ⟨cl, t', b', g', m', r1, r2, r3, r4, r5, r6, r7, r9, r10⟩ := known_L (M := M) hx hy ht fu 0 (by omega) (by have := fu_ge; have := h.le; omega) t (fun _ => 0) g m b 0 0 h
  exact ⟨cl, t', b', g', m', r1, r2, r3, r4, r5, fun i hi => r6 i (by omega) hi, r9, r10⟩
end KNOWN
