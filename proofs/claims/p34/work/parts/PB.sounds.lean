/-! PURE: clicks and known clicks, whole -/
section SOUNDS
variable {C R M W N : Nat} {b b' : BS} {g g' m m' m2 w w' : Nat → Int32} {u : US} {s9 : SS} {kk : Int32}
theorem t_ok {t : Int32} (ht : rg t 0 100000) : pX11_isBetween t 0 100000 = true := bt_t ht
theorem click_none (h : BR C R 0 W N b g m w) (te : TS) (s9 : SS) (u : US) (kk : Int32) {x y t : Int32} (hx : rg x (-1000) 3000) (hy : rg y (-1000) 3000) (ht : rg t 0 100000) : (pX11_click te b s9 u kk x y t = (3, (0, (te, b, s9, u, kk))) ∧ kX11_click te b s9 u kk x y t) ∧ pX11_calibrate te b s9 u kk x y t = (3, (0, (te, b, s9, u, kk))) ∧ kX11_calibrate te b s9 u kk x y t := by
  have e : pX2_refusalOfClick b x y t = 3 := by
    unfold pX2_refusalOfClick
    rw [if_pos (place_t hx hy), if_pos (t_ok ht), if_pos (show b.1 4 = 0 from h.b4)]
  unfold pX11_click kX11_click pX11_calibrate kX11_calibrate
  rw [e, ref3, xb_no _ _ (by decide), xb_no _ _ (by decide)]
  exact ⟨⟨rfl, xk_no _ (by decide)⟩, rfl, xk_no _ (by decide)⟩
theorem refc (h : BR C R M W N b g m w) (hM : 0 < M) {x y t : Int32} (hx : rg x (-1000) 3000) (hy : rg y (-1000) 3000) (ht : rg t 0 100000) : pX2_refusalOfClick b x y t = 0 := by
  have hl := h.le
  unfold pX2_refusalOfClick
  rw [if_pos (place_t hx hy), if_pos (t_ok ht), h.b4, if_neg (nI_ne0 hM (by omega))]
/-- the law's second look at the microphones, behind a click -/
def offC (m1 m2 : Nat → Int32) (M : Nat) : Prop := ∀ i, i < M → (∀ c, c < 10 → c ≠ 5 → m2 (10 * i + c) = m1 (10 * i + c)) ∧ m2 (10 * i + 5) = m1 (10 * i + 5) - m1 (10 * i + 3)
theorem click_ok (h : DR C R M W N b g m w) (hu : UO u) (te : TS) (s9 : SS) (kk : Int32) (hM : 0 < M) {x y t : Int32} (hx : rg x (-1000) 3000) (hy : rg y (-1000) 3000) (ht : rg t 0 100000) :
    ∃ (nz : Int32) (te' : TS) (b' : BS) (u' : US) (g1 m1 : Nat → Int32), pL_hears g m w x y t = (nz, g1, m1) ∧ kL_hears g m w x y t ∧ g1 2 = g 2 ∧ pX11_click te b s9 u kk x y t = (0, (nz, (te', b', pX8_outdate s9, u', kk))) ∧ kX11_click te b s9 u kk x y t ∧ UO u' ∧ ∀ m2, offC m1 m2 M → DR C R M W N b' g1 m2 w := by
  have hl := h.1.le
  obtain ⟨u', v1, v2, v3⟩ := save_ok hu b s9 kk
  obtain ⟨nz, te', b', g1, m1, r1, r2, r3, r4, r5, r6, r7, r8, r9⟩ := click_eq h.1 (fun i hi => by rw [(h.2 i hi).2.1]; exact (h.2 i hi).1.1) hx hy ht te
  refine ⟨nz, te', b', u', g1, m1, r3, r4, r8 2 (by omega) (by omega), ?_, ?_, v3, fun m2 ho => ?_⟩
  · unfold pX11_click
    rw [refc h.1 hM hx hy ht, ref0, xb_yes, v1]
    simp only [lt, r1, bd]
  · unfold kX11_click
    rw [refc h.1 hM hx hy ht, ref0, v1]
    exact xk_yes ⟨v2, r2⟩
  · refine ⟨r5.chg (fun k hk => rfl) r5.set (fun i hi k hk => (ho i hi).1 k (by omega) (by omega)) rfl rfl rfl rfl rfl rfl r5.b2 r5.b3 (fun i hi k hk => rfl) rfl rfl (fun k hk => r5.setR hk), fun i hi => ?_⟩
    obtain ⟨o1, o2⟩ := ho i hi
    obtain ⟨c1, c2, c3⟩ := r6 i hi
    obtain ⟨n1, n2, n3⟩ := (h.2 i hi).2
    obtain ⟨k1, k2, k3⟩ := (h.2 i hi).1
    have e3 : m1 (10 * i + 3) = m (10 * i + 3) := c1 3 (by omega)
    rw [n1] at c3
    have kl := k1.1; have kh := k1.2
    refine ⟨?_, ?_, ?_, fun c hc => ?_⟩
    · unfold okN
      rw [o1 3 (by omega) (by omega), o1 4 (by omega) (by omega), o2, e3]
      refine ⟨k1, ?_, ?_⟩
      · rcases c3 with c3 | c3
        · exact Or.inr c3.1
        · exact Or.inl c3.1
      · rcases c3 with ⟨d1, d2, d3⟩ | ⟨d1, d2, d3, d4⟩
        · have a1 := d3.1; have a2 := d3.2
          unfold rg
          rw [Kit.i32_sub (by omega) (by omega)]
          omega
        · rw [d3]
          have z0 : ((0 : Int32)).toInt = 0 := rfl
          unfold rg
          rw [Kit.i32_sub (by omega) (by omega), z0]
          omega
    · rw [r7 i hi 3 (by omega), n1, o1 3 (by omega) (by omega), e3]
    · unfold noteR
      rw [o1 4 (by omega) (by omega), o2, e3]
      rcases c3 with ⟨d1, d2, d3⟩ | ⟨d1, d2, d3, d4⟩
      · rw [d1, if_pos rfl, d2]
      · rw [d1, if_neg (by decide), d2]
    · rw [o1 (6 + c) (by omega) (by omega)]
      exact c2 c hc
/-- what the law takes for a microphone's offset behind a known click -/
noncomputable def offK (g m1 : Nat → Int32) (x y t : Int32) (i : Nat) : Int32 := if m1 (10 * i + 4) = 1 then m1 (10 * i + 5) - t - Dl g m1 x y i else 0
def setK (g m1 m2 : Nat → Int32) (x y t : Int32) (M : Nat) : Prop := ∀ i, i < M → (∀ c, c < 10 → c ≠ 3 → c ≠ 5 → m2 (10 * i + c) = m1 (10 * i + c)) ∧ m2 (10 * i + 3) = offK g m1 x y t i ∧ m2 (10 * i + 5) = m1 (10 * i + 5) - offK g m1 x y t i
noncomputable def chgK (g m1 : Nat → Int32) (x y t : Int32) (i : Nat) : Bool := decide (¬ offK g m1 x y t i = m1 (10 * i + 3))
theorem known_ok (h : DR C R M W N b g m w) (hu : UO u) (te : TS) (s9 : SS) (kk : Int32) (hM : 0 < M) {x y t : Int32} (hx : rg x (-1000) 3000) (hy : rg y (-1000) 3000) (ht : rg t 0 100000) :
    ∃ (nz : Int32) (te' : TS) (b' : BS) (u' : US) (g1 m1 : Nat → Int32), pL_hears g m w x y t = (nz, g1, m1) ∧ kL_hears g m w x y t ∧ g1 2 = g 2 ∧ (∀ i, i < M → (m1 (10 * i + 4) = 0 ∨ m1 (10 * i + 4) = 1) ∧ kL_root ((x - m1 (10 * i + 0)) * (x - m1 (10 * i + 0)) + (y - m1 (10 * i + 1)) * (y - m1 (10 * i + 1)))) ∧ (¬ g1 7 = 0) ∧ pX11_calibrate te b s9 u kk x y t = (0, (cntT (chgK g1 m1 x y t) M 0 0, (te', b', pX8_outdate s9, u', kk))) ∧ kX11_calibrate te b s9 u kk x y t ∧ UO u' ∧ ∀ m2, setK g1 m1 m2 x y t M → DR C R M W N b' g1 m2 w := by
  have hl := h.1.le
  obtain ⟨u', v1, v2, v3⟩ := save_ok hu b s9 kk
  obtain ⟨cl, te', b', g1, m1, r1, r2, r3, r4, r5, r6, r8, r9⟩ := known_eq h.1 hx hy ht te
  have h7 : g1 7 = g 7 := r8 7 (by omega) (by omega)
  have eD : ∀ i, i < M → Dl g1 m1 x y i = Dl g m x y i := fun i hi => dl_cong h7 ((r6 i hi).1 0 (by omega)) ((r6 i hi).1 1 (by omega))
  have hoff : ∀ i, i < M → offK g1 m1 x y t i = b'.2 0 (i * 9 + 3) ∧ rg (offK g1 m1 x y t i) (-500000) 500000 ∧ (m1 (10 * i + 4) = 1 → m1 (10 * i + 5) - offK g1 m1 x y t i = b'.2 0 (i * 9 + 4) ∧ rg (m1 (10 * i + 5) - offK g1 m1 x y t i) (-2000000) 2000000) := by
    intro i hi
    obtain ⟨T, T1, T2, -⟩ := dl_eq h.1 hi hx hy
    obtain ⟨c1, c2, c3⟩ := r6 i hi
    unfold offK
    rw [eD i hi]
    have t1 := ht.1; have t2 := ht.2
    have eT := nI_toInt (n := T) (by omega)
    rcases c3 with ⟨d1, d2, d3, d4⟩ | ⟨d1, d2, d3, d4, d5⟩
    · have a1 := d4.1; have a2 := d4.2
      rw [if_pos d1, d2, d3, T2]
      have q1 : (t + nI T).toInt = t.toInt + T := by rw [Kit.i32_add (by omega) (by omega), eT]
      have q2 : (m1 (10 * i + 5) - (t + nI T)).toInt = (m1 (10 * i + 5)).toInt - (t.toInt + T) := by rw [Kit.i32_sub (by omega) (by omega), q1]
      have q3 : (m1 (10 * i + 5) - t).toInt = (m1 (10 * i + 5)).toInt - t.toInt := Kit.i32_sub (by omega) (by omega)
      have q4 : (m1 (10 * i + 5) - t - nI T).toInt = (m1 (10 * i + 5)).toInt - t.toInt - T := by rw [Kit.i32_sub (by omega) (by omega), q3, eT]
      have q5 : (m1 (10 * i + 5) - (m1 (10 * i + 5) - t - nI T)).toInt = t.toInt + T := by rw [Kit.i32_sub (by omega) (by omega), q4]; omega
      refine ⟨Int32.toInt_inj.mp (by omega), ⟨by omega, by omega⟩, fun _ => ⟨Int32.toInt_inj.mp (by omega), by omega, by omega⟩⟩
    · rw [if_neg (by rw [d1]; decide), d2]
      exact ⟨rfl, ⟨by decide, by decide⟩, fun e9 => absurd (d1.symm.trans e9) (by decide)⟩
  have hc : cntT (chgK g1 m1 x y t) M 0 0 = cntT (chgP b b') M 0 0 := by
    refine cntT_cong _ _ _ (fun i _ hi => ?_)
    have hi : i < M := by omega
    unfold chgK chgP
    rw [(hoff i hi).1, (r6 i hi).1 3 (by omega), (h.2 i hi).2.1]
  refine ⟨cl, te', b', u', g1, m1, r3, r4, r8 2 (by omega) (by omega), fun i hi => ⟨?_, ?_⟩, r5.g7, ?_, ?_, v3, fun m2 ho => ?_⟩
  · rcases (r6 i hi).2.2 with d | d
    · exact Or.inr d.1
    · exact Or.inl d.1
  · obtain ⟨T, T1, T2, T3, -⟩ := dl_eq h.1 hi hx hy
    rw [(r6 i hi).1 0 (by omega), (r6 i hi).1 1 (by omega)]
    exact T3
  · unfold pX11_calibrate
    rw [refc h.1 hM hx hy ht, ref0, xb_yes, v1, hc]
    simp only [lt, r1, bd]
  · unfold kX11_calibrate
    rw [refc h.1 hM hx hy ht, ref0, v1]
    exact xk_yes ⟨v2, r2⟩
  · refine ⟨r5.chg (fun k hk => rfl) r5.set (fun i hi k hk => (ho i hi).1 k (by omega) (by omega) (by omega)) rfl rfl rfl rfl rfl rfl r5.b2 r5.b3 (fun i hi k hk => rfl) rfl rfl (fun k hk => r5.setR hk), fun i hi => ?_⟩
    obtain ⟨o1, o2, o3⟩ := ho i hi
    obtain ⟨c1, c2, c3⟩ := r6 i hi
    obtain ⟨f1, f2, f3⟩ := hoff i hi
    refine ⟨?_, ?_, ?_, fun c hc => ?_⟩
    · unfold okN
      rw [o1 4 (by omega) (by omega) (by omega), o2, o3]
      refine ⟨f2, ?_, ?_⟩
      · rcases c3 with d | d
        · exact Or.inr d.1
        · exact Or.inl d.1
      · rcases c3 with d | ⟨d1, d2, d3, d4, d5⟩
        · exact (f3 d.1).2
        · rw [f1, d2, d4]
          exact ⟨by decide, by decide⟩
    · rw [o2, f1]
    · unfold noteR
      rw [o1 4 (by omega) (by omega) (by omega), o3]
      rcases c3 with d | ⟨d1, d2, d3, d4, d5⟩
      · rw [if_pos d.1, (f3 d.1).1]
      · rw [if_neg (by rw [d1]; decide), d3]
    · rw [o1 (6 + c) (by omega) (by omega) (by omega)]
      exact c2 c hc
end SOUNDS
