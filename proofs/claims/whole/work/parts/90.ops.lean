/-! PURE: the operations of the two objects: what changes the bench -/
section OPS
variable {C R M W N : Nat} {b b' : BS} {S S' : Nat → Int32} {m m' : MS} {s9 : SS} {u : US} {x : TS} {kk : Int32}
/-- the command texts of both -/
def TXR (x : TS) (m : MS) : Prop := ∃ n : Nat, n ≤ 150 ∧ x.1 = nI n ∧ m.1 1 = nI n ∧ ∀ q, q < n → x.2 q = m.2.2 3 q ∧ rg (x.2 q) 0 127
/-- the states of both -/
def SR (b : BS) (s9 : SS) (u : US) (x : TS) (kk : Int32) (m : MS) : Prop := (∃ C R M W N : Nat, BR C R M W N b (m.2.2 0) ∧ VR (m.2.2 0) M (C * R) s9) ∧ UR u m ∧ TXR x m ∧ kk = m.1 2
theorem TXR.same (h : TXR x m) (e1 : m'.1 1 = m.1 1) (e3 : m'.2.2 3 = m.2.2 3) : TXR x m' := by
  obtain ⟨n, a1, a2, a3, a4⟩ := h
  exact ⟨n, a1, a2, e1.trans a3, by rw [e3]; exact a4⟩
theorem SR.same (h : SR b s9 u x kk m) (k : keeps m m') (e : m'.2.2 0 = m.2.2 0) : SR b s9 u x kk m' := by
  obtain ⟨h1, h2, h3, h4⟩ := h
  exact ⟨by rw [e]; exact h1, h2.same k.1 k.2.2.2.2.1, h3.same k.2.1 k.2.2.2.2.2.2, h4.trans k.2.2.1.symm⟩
theorem keeps_i (m : MS) {k : Nat} (x : Int32) (h : k ≠ 0 ∧ k ≠ 1 ∧ k ≠ 2 ∧ k ≠ 7) : keeps m (msi m k x) := ⟨upd_ne _ _ h.1.symm, upd_ne _ _ h.2.1.symm, upd_ne _ _ h.2.2.1.symm, upd_ne _ _ h.2.2.2.symm, rfl, rfl, rfl⟩
theorem SR.i3 (h : SR b s9 u x kk m) (y : Int32) : SR b s9 u x kk (msi m 3 y) := h.same (keeps_i m y ⟨by decide, by decide, by decide, by decide⟩) rfl
theorem i3_3 (m : MS) (y : Int32) : (msi m 3 y).1 3 = y := by rw [msi_1, upd_eq]
theorem SR.hold (h : SR b s9 u x kk m) (F : Nat → Int32) : SR b s9 u x kk (msa m 2 F) := by
  obtain ⟨h1, h2, h3, h4⟩ := h
  exact ⟨h1, h2.same rfl rfl, h3.same rfl rfl, h4⟩
theorem VR_old (S : Nat → Int32) (M n' : Nat) (s9 : SS) : VR S M n' (pX8_outdate s9) := Or.inl rfl
theorem und_op (h : SR b s9 u x kk m) {ρ : Int32} {ub : Int32 × BS} {ku : Prop} {act : MS → Int32 × MS} {kact : MS → Prop} (hs : ∀ (C R M W N : Nat) (m1 : MS), BR C R M W N b (m1.2.2 0) → stepR m1 ρ ub ku (act m1) (kact m1)) :
    ∃ w : Int32 × MS, (lt (pX12_hold m) fun (u3 : MS) => bd (act u3) fun (r5 : Int32) (u6 : MS) => bd (pX12_done u6 r5) fun (r8 : Int32) (u9 : MS) => (r8, u9)) = w ∧ (kX12_hold m ∧ (lt (pX12_hold m) fun (u3 : MS) => kact u3 ∧ (bd (act u3) fun (r5 : Int32) (u6 : MS) => kX12_done u6 r5))) ∧ ((ρ = 2 ∨ ρ = 3) ∧ w.2.1 3 = ρ - 1 ∧ SR b s9 u x kk w.2 ∨ ρ = 0 ∧ ku ∧ ∃ u' : US, pX10_push u b = (u', b) ∧ kX10_push u b ∧ w.1 = ub.1 ∧ w.2.1 3 = 0 ∧ SR ub.2 (pX8_outdate s9) u' x kk w.2) := by
  obtain ⟨F, f1, f2, f3⟩ := hold_eq m
  have hh := h.hold F
  obtain ⟨⟨C, R, M, W, N, h1, hv⟩, h2, h3, h4⟩ := h
  have h1' : BR C R M W N b ((msa m 2 F).2.2 0) := h1
  obtain ⟨s1, s2⟩ := hs C R M W N (msa m 2 F) h1'
  rw [f1]
  simp only [lt]
  rcases s2 with ⟨s2, s3⟩ | ⟨s2, s3, s4, s5, s6, s7⟩
  · rw [s3]
    simp only [bd]
    have hd : pX12_done (msa m 2 F) ρ = (0, msi (msa m 2 F) 3 (ρ - 1)) ∧ kX12_done (msa m 2 F) ρ := by
      unfold pX12_done kX12_done pX12_fails
      have hn : ¬ ρ ≤ 0 := by rcases s2 with e | e <;> rw [e] <;> decide
      rw [if_neg hn, if_neg hn]
      exact ⟨rfl, trivial⟩
    rw [hd.1]
    exact ⟨_, rfl, ⟨f2, s1, hd.2⟩, Or.inl ⟨s2, i3_3 _ _, hh.i3 _⟩⟩
  · obtain ⟨w1, hw1⟩ : ∃ w1, w1 = act (msa m 2 F) := ⟨_, rfl⟩
    rw [← hw1] at s4 s5 s6 s7 ⊢
    obtain ⟨w0, wm⟩ := w1
    have s4 : w0 = 0 := s4
    subst s4
    simp only [bd]
    have hU : UR u wm := h2.same s6.1 s6.2.2.2.2.1
    have hA : BRx b (wm.2.2 2) := by
      have e2 : wm.2.2 2 = F := s6.2.2.2.2.2.1
      rw [e2]
      exact BRx.eqS ⟨C, R, M, W, N, h1⟩ f3
    obtain ⟨u', m', e1, e2, e3, e4, e5, e6, e7, e8, e9, e10, e11⟩ := ends_eq hU hA (wm.1 5)
    have hd : pX12_done wm 0 = (wm.1 5, m') ∧ kX12_done wm 0 := by
      unfold pX12_done kX12_done
      rw [if_pos (show (0 : Int32) ≤ 0 by decide), if_pos (show (0 : Int32) ≤ 0 by decide), e3]
      exact ⟨rfl, e4⟩
    rw [hd.1]
    have s5 : wm.1 5 = ub.1 := s5
    obtain ⟨C', R', M', W', N', s7⟩ := s7
    have s7 : BR C' R' M' W' N' ub.2 (wm.2.2 0) := s7
    refine ⟨_, rfl, ⟨f2, s1, hd.2⟩, Or.inr ⟨s2, s3, u', e1, e2, s5, e11, ⟨C', R', M', W', N', by rw [e6]; exact s7, VR_old _ _ _ _⟩, e5, h3.same (e8.trans s6.2.1) (e7.trans s6.2.2.2.2.2.2), ?_⟩⟩
    rw [e9]
    exact h4.trans s6.2.2.1.symm
theorem save_eq (e : ∃ u' : US, pX10_push u b = (u', b) ∧ kX10_push u b) : ∃ u' : US, pX10_push u b = (u', b) ∧ pX11_saveState b s9 u kk = (b, pX8_outdate s9, u', kk) ∧ kX11_saveState b s9 u kk := by
  obtain ⟨u', e1, e2⟩ := e
  refine ⟨u', e1, ?_, e2⟩
  unfold pX11_saveState
  simp only [lt, e1]
/-- how an operation of the class and one of the reference end: the code, and the number of the exception -/
def endR (mp : Nat → Int32) (c : Nat) (r : Int32) (w : Int32 × MS) : Prop := w.2.1 3 = mp c ∧ (c = 0 → r = w.1)
def mpA (c : Nat) : Int32 := if c = 0 then 0 else if c = 2 then 1 else 2
def mpB (c : Nat) : Int32 := if c = 0 then 0 else if c = 1 then 1 else 2
theorem refuse_e {ρ : Int32} (h : ρ = 2 ∨ ρ = 3) : ∃ c : Nat, pX11_refuse ρ = c ∧ c ≠ 0 ∧ c ≤ 3 ∧ mpA c = ρ - 1 := by
  rcases h with e | e
  · exact ⟨2, by rw [e]; rfl, by decide, by decide, by rw [e]; decide⟩
  · exact ⟨3, by rw [e]; rfl, by decide, by decide, by rw [e]; decide⟩
theorem xb_no {γ : Type} {c : Nat} (d : γ) (k : Nat × γ) (h : c ≠ 0) : xb c d k = (c, d) := if_neg h
theorem xb_yes {γ : Type} (d : γ) (k : Nat × γ) : xb 0 d k = k := if_pos rfl
theorem xk_no {c : Nat} (k : Prop) (h : c ≠ 0) : xk c k := by unfold xk; rw [if_neg h]; trivial
theorem xk_yes {k : Prop} (h : k) : xk 0 k := by unfold xk; rw [if_pos rfl]; exact h
theorem begin_op (h : SR b s9 u x kk m) (a1 a2 : Int32) : ∃ (c : Nat) (r : Int32) (b' : BS) (s' : SS) (u' : US), pX11_begin b s9 u kk a1 a2 = (c, (r, (b', s', u', kk))) ∧ kX11_begin b s9 u kk a1 a2 ∧ kX12_begin m a1 a2 ∧ SR b' s' u' x kk (pX12_begin m a1 a2).2 ∧ endR mpA c r (pX12_begin m a1 a2) ∧ c ≤ 3 := by
  obtain ⟨w, w1, w2, w3⟩ := und_op h (ρ := pX2_refusalOfField b a1 a2) (ub := pX2_startField b a1 a2) (ku := True) (act := fun m => pX12_begins m a1 a2) (kact := fun m => kX12_begins m a1 a2) (fun C R M W N m1 hb => field_eq hb a1 a2)
  have w1 : pX12_begin m a1 a2 = w := w1
  rw [w1]
  unfold pX11_begin kX11_begin
  rcases w3 with ⟨e1, e2, e3⟩ | ⟨e1, e2, u', e3, e4, e5, e6, e7⟩
  · obtain ⟨c, c1, c2, c3, c4⟩ := refuse_e e1
    rw [c1, xb_no _ _ c2]
    exact ⟨c, 0, b, s9, u, rfl, xk_no _ c2, w2, e3, ⟨by rw [e2, c4], fun h0 => absurd h0 c2⟩, c3⟩
  · obtain ⟨u2, d1, d2, d3⟩ := save_eq (s9 := s9) (kk := kk) ⟨u', e3, e4⟩
    have eu : u2 = u' := by rw [d1] at e3; exact (Prod.mk.inj e3).1
    subst eu
    rw [e1, show pX11_refuse 0 = 0 from rfl, xb_yes, d2]
    simp only [lt, bd]
    exact ⟨0, _, _, _, _, rfl, xk_yes d3, w2, e7, ⟨e6, fun _ => e5.symm⟩, by decide⟩
theorem mic_op (h : SR b s9 u x kk m) (a1 a2 : Int32) : ∃ (c : Nat) (r : Int32) (b' : BS) (s' : SS) (u' : US), pX11_addMicrophone b s9 u kk a1 a2 = (c, (r, (b', s', u', kk))) ∧ kX11_addMicrophone b s9 u kk a1 a2 ∧ kX12_addMicrophone m a1 a2 ∧ SR b' s' u' x kk (pX12_addMicrophone m a1 a2).2 ∧ endR mpA c r (pX12_addMicrophone m a1 a2) ∧ c ≤ 3 := by
  obtain ⟨w, w1, w2, w3⟩ := und_op h (ρ := pX2_refusalOfMicrophone b a1 a2) (ub := pX2_placeMicrophone b a1 a2) (ku := kX2_placeMicrophone b a1 a2) (act := fun m => pX12_comes m a1 a2) (kact := fun m => kX12_comes m a1 a2) (fun C R M W N m1 hb => mic_eq hb a1 a2)
  have w1 : pX12_addMicrophone m a1 a2 = w := w1
  rw [w1]
  unfold pX11_addMicrophone kX11_addMicrophone
  rcases w3 with ⟨e1, e2, e3⟩ | ⟨e1, e2, u', e3, e4, e5, e6, e7⟩
  · obtain ⟨c, c1, c2, c3, c4⟩ := refuse_e e1
    rw [c1, xb_no _ _ c2]
    exact ⟨c, 0, b, s9, u, rfl, xk_no _ c2, w2, e3, ⟨by rw [e2, c4], fun h0 => absurd h0 c2⟩, c3⟩
  · obtain ⟨u2, d1, d2, d3⟩ := save_eq (s9 := s9) (kk := kk) ⟨u', e3, e4⟩
    have eu : u2 = u' := by rw [d1] at e3; exact (Prod.mk.inj e3).1
    subst eu
    rw [e1, show pX11_refuse 0 = 0 from rfl, xb_yes, d2]
    simp only [lt, bd]
    exact ⟨0, _, _, _, _, rfl, xk_yes ⟨d3, e2⟩, w2, e7, ⟨e6, fun _ => e5.symm⟩, by decide⟩
theorem wall_op (h : SR b s9 u x kk m) (a1 a2 a3 : Int32) : ∃ (c : Nat) (r : Int32) (b' : BS) (s' : SS) (u' : US), pX11_addWall b s9 u kk a1 a2 a3 = (c, (r, (b', s', u', kk))) ∧ kX11_addWall b s9 u kk a1 a2 a3 ∧ kX12_addWall m a1 a2 a3 ∧ SR b' s' u' x kk (pX12_addWall m a1 a2 a3).2 ∧ endR mpA c r (pX12_addWall m a1 a2 a3) ∧ c ≤ 3 := by
  obtain ⟨w, w1, w2, w3⟩ := und_op h (ρ := pX2_refusalOfWall b a1 a2 a3) (ub := pX2_placeWall b a1 a2 a3) (ku := kX2_placeWall b a1 a2 a3) (act := fun m => pX12_walls m a1 a2 a3) (kact := fun m => kX12_walls m a1 a2 a3) (fun C R M W N m1 hb => wall_eq hb a1 a2 a3)
  have w1 : pX12_addWall m a1 a2 a3 = w := w1
  rw [w1]
  unfold pX11_addWall kX11_addWall
  rcases w3 with ⟨e1, e2, e3⟩ | ⟨e1, e2, u', e3, e4, e5, e6, e7⟩
  · obtain ⟨c, c1, c2, c3, c4⟩ := refuse_e e1
    rw [c1, xb_no _ _ c2]
    exact ⟨c, 0, b, s9, u, rfl, xk_no _ c2, w2, e3, ⟨by rw [e2, c4], fun h0 => absurd h0 c2⟩, c3⟩
  · obtain ⟨u2, d1, d2, d3⟩ := save_eq (s9 := s9) (kk := kk) ⟨u', e3, e4⟩
    have eu : u2 = u' := by rw [d1] at e3; exact (Prod.mk.inj e3).1
    subst eu
    rw [e1, show pX11_refuse 0 = 0 from rfl, xb_yes, d2]
    simp only [lt, bd]
    exact ⟨0, _, _, _, _, rfl, xk_yes ⟨d3, e2⟩, w2, e7, ⟨e6, fun _ => e5.symm⟩, by decide⟩
theorem screen_op (h : SR b s9 u x kk m) (a1 a2 a3 a4 : Int32) : ∃ (c : Nat) (r : Int32) (b' : BS) (s' : SS) (u' : US), pX11_addScreen b s9 u kk a1 a2 a3 a4 = (c, (r, (b', s', u', kk))) ∧ kX11_addScreen b s9 u kk a1 a2 a3 a4 ∧ kX12_addScreen m a1 a2 a3 a4 ∧ SR b' s' u' x kk (pX12_addScreen m a1 a2 a3 a4).2 ∧ endR mpA c r (pX12_addScreen m a1 a2 a3 a4) ∧ c ≤ 3 := by
  obtain ⟨w, w1, w2, w3⟩ := und_op h (ρ := pX2_refusalOfScreen b a1 a2 a3 a4) (ub := pX2_placeScreen b a1 a2 a3 a4) (ku := kX2_placeScreen b a1 a2 a3 a4) (act := fun m => pX12_screens m a1 a2 a3 a4) (kact := fun m => kX12_screens m a1 a2 a3 a4) (fun C R M W N m1 hb => screen_eq hb a1 a2 a3 a4)
  have w1 : pX12_addScreen m a1 a2 a3 a4 = w := w1
  rw [w1]
  unfold pX11_addScreen kX11_addScreen
  rcases w3 with ⟨e1, e2, e3⟩ | ⟨e1, e2, u', e3, e4, e5, e6, e7⟩
  · obtain ⟨c, c1, c2, c3, c4⟩ := refuse_e e1
    rw [c1, xb_no _ _ c2]
    exact ⟨c, 0, b, s9, u, rfl, xk_no _ c2, w2, e3, ⟨by rw [e2, c4], fun h0 => absurd h0 c2⟩, c3⟩
  · obtain ⟨u2, d1, d2, d3⟩ := save_eq (s9 := s9) (kk := kk) ⟨u', e3, e4⟩
    have eu : u2 = u' := by rw [d1] at e3; exact (Prod.mk.inj e3).1
    subst eu
    rw [e1, show pX11_refuse 0 = 0 from rfl, xb_yes, d2]
    simp only [lt, bd]
    exact ⟨0, _, _, _, _, rfl, xk_yes ⟨d3, e2⟩, w2, e7, ⟨e6, fun _ => e5.symm⟩, by decide⟩
theorem click_op (h : SR b s9 u x kk m) (te : TS) (a1 a2 a3 : Int32) : ∃ (c : Nat) (r : Int32) (te' : TS) (b' : BS) (s' : SS) (u' : US), pX11_click te b s9 u kk a1 a2 a3 = (c, (r, (te', b', s', u', kk))) ∧ kX11_click te b s9 u kk a1 a2 a3 ∧ kX12_click m a1 a2 a3 ∧ SR b' s' u' x kk (pX12_click m a1 a2 a3).2 ∧ endR mpA c r (pX12_click m a1 a2 a3) ∧ c ≤ 3 := by
  obtain ⟨w, w1, w2, w3⟩ := und_op h (ρ := pX2_refusalOfClick b a1 a2 a3) (ub := ((pX6_hearClick te b a1 a2 a3).1, (pX6_hearClick te b a1 a2 a3).2.2)) (ku := kX6_hearClick te b a1 a2 a3) (act := fun m => pX12_clicks m a1 a2 a3) (kact := fun m => kX12_clicks m a1 a2 a3) (fun C R M W N m1 hb => click_eq hb a1 a2 a3 te)
  have w1 : pX12_click m a1 a2 a3 = w := w1
  rw [w1]
  unfold pX11_click kX11_click
  rcases w3 with ⟨e1, e2, e3⟩ | ⟨e1, e2, u', e3, e4, e5, e6, e7⟩
  · obtain ⟨c, c1, c2, c3, c4⟩ := refuse_e e1
    rw [c1, xb_no _ _ c2]
    exact ⟨c, 0, te, b, s9, u, rfl, xk_no _ c2, w2, e3, ⟨by rw [e2, c4], fun h0 => absurd h0 c2⟩, c3⟩
  · obtain ⟨u2, d1, d2, d3⟩ := save_eq (s9 := s9) (kk := kk) ⟨u', e3, e4⟩
    have eu : u2 = u' := by rw [d1] at e3; exact (Prod.mk.inj e3).1
    subst eu
    rw [e1, show pX11_refuse 0 = 0 from rfl, xb_yes, d2]
    simp only [lt, bd]
    exact ⟨0, _, _, _, _, _, rfl, xk_yes ⟨d3, e2⟩, w2, e7, ⟨e6, fun _ => e5.symm⟩, by decide⟩
theorem known_op (h : SR b s9 u x kk m) (te : TS) (a1 a2 a3 : Int32) : ∃ (c : Nat) (r : Int32) (te' : TS) (b' : BS) (s' : SS) (u' : US), pX11_calibrate te b s9 u kk a1 a2 a3 = (c, (r, (te', b', s', u', kk))) ∧ kX11_calibrate te b s9 u kk a1 a2 a3 ∧ kX12_calibrate m a1 a2 a3 ∧ SR b' s' u' x kk (pX12_calibrate m a1 a2 a3).2 ∧ endR mpA c r (pX12_calibrate m a1 a2 a3) ∧ c ≤ 3 := by
  obtain ⟨w, w1, w2, w3⟩ := und_op h (ρ := pX2_refusalOfClick b a1 a2 a3) (ub := ((pX6_hearKnownClick te b a1 a2 a3).1, (pX6_hearKnownClick te b a1 a2 a3).2.2)) (ku := kX6_hearKnownClick te b a1 a2 a3) (act := fun m => pX12_calibrates m a1 a2 a3) (kact := fun m => kX12_calibrates m a1 a2 a3) (fun C R M W N m1 hb => known_eq hb a1 a2 a3 te)
  have w1 : pX12_calibrate m a1 a2 a3 = w := w1
  rw [w1]
  unfold pX11_calibrate kX11_calibrate
  rcases w3 with ⟨e1, e2, e3⟩ | ⟨e1, e2, u', e3, e4, e5, e6, e7⟩
  · obtain ⟨c, c1, c2, c3, c4⟩ := refuse_e e1
    rw [c1, xb_no _ _ c2]
    exact ⟨c, 0, te, b, s9, u, rfl, xk_no _ c2, w2, e3, ⟨by rw [e2, c4], fun h0 => absurd h0 c2⟩, c3⟩
  · obtain ⟨u2, d1, d2, d3⟩ := save_eq (s9 := s9) (kk := kk) ⟨u', e3, e4⟩
    have eu : u2 = u' := by rw [d1] at e3; exact (Prod.mk.inj e3).1
    subst eu
    rw [e1, show pX11_refuse 0 = 0 from rfl, xb_yes, d2]
    simp only [lt, bd]
    exact ⟨0, _, _, _, _, _, rfl, xk_yes ⟨d3, e2⟩, w2, e7, ⟨e6, fun _ => e5.symm⟩, by decide⟩
/-- what is there -/
theorem hasM (h : BR C R M W N b (m.2.2 0)) (a : Int32) : pX9_has 8 9 72 (b.1 4, b.2 0) a = pX12_isMicrophone m a ∧ (pX12_isMicrophone m a = true → ∃ i : Nat, i < M ∧ a = nI i) := by
  have hl := h.le
  have z0 : ((0 : Int32)).toInt = 0 := rfl
  have en := nI_toInt (n := M) (by omega)
  rw [h.b4, has_eq (by omega)]
  unfold pX12_isMicrophone
  rw [h.eM]
  by_cases c0 : a < 0
  · rw [if_pos c0]
    rw [fa_lt, z0] at c0
    exact ⟨by simp; omega, fun h => absurd h (by decide)⟩
  · rw [if_neg c0]
    rw [fa_lt, z0] at c0
    by_cases c1 : nI M ≤ a
    · rw [if_pos c1]
      rw [fa_le, en] at c1
      exact ⟨by simp; omega, fun h => absurd h (by decide)⟩
    · rw [if_neg c1]
      rw [fa_le, en] at c1
      exact ⟨by simp; omega, fun _ => ⟨a.toInt.toNat, by omega, pu_nI (by omega)⟩⟩
theorem hasC (h : BR C R M W N b (m.2.2 0)) (a : Int32) : pX2_hasCell b a = pX12_isCell m a ∧ (pX12_isCell m a = true → ∃ c : Nat, c < C * R ∧ a = nI c) := by
  have hl := h.le
  have hCR : C * R ≤ 20 * 20 := Nat.mul_le_mul (by omega) (by omega)
  have z0 : ((0 : Int32)).toInt = 0 := rfl
  have en := nI_toInt (n := C * R) (by omega)
  unfold pX2_hasCell pX12_isCell pX2_cellCount
  rw [h.b0, h.b1, h.eC, h.eR, pk_mul]
  refine ⟨rfl, fun ht => ?_⟩
  by_cases c0 : a < 0
  · rw [if_pos c0] at ht
    exact absurd ht (by decide)
  · rw [if_neg c0] at ht
    rw [fa_lt, z0] at c0
    by_cases c1 : nI (C * R) ≤ a
    · rw [if_pos c1] at ht
      exact absurd ht (by decide)
    · rw [fa_le, en] at c1
      exact ⟨a.toInt.toNat, by omega, pu_nI (by omega)⟩
theorem there_t : pX11_requireThere true = 0 := rfl
theorem there_f : pX11_requireThere false = 1 := rfl
theorem range_t : pX11_requireRange true = 0 := rfl
theorem range_f : pX11_requireRange false = 2 := rfl
theorem bool_no {c : Bool} (h : ¬ c = true) : c = false := by cases c <;> simp_all
/-- an undoable action without a refusal of its own -/
theorem und_1 (h : SR b s9 u x kk m) {ub : Int32 × BS} {F : Nat → Int32} {wm : MS} (hF : ∀ q, q < 122 → F q = m.2.2 0 q) (hk : keeps (msa m 2 F) wm) (hb : BRx ub.2 (wm.2.2 0)) : ∃ (u' : US) (m' : MS), pX10_push u b = (u', b) ∧ kX10_push u b ∧ pX12_ends wm ub.1 = (ub.1, m') ∧ kX12_ends wm ub.1 ∧ m'.1 3 = 0 ∧ SR ub.2 (pX8_outdate s9) u' x kk m' := by
  obtain ⟨⟨C, R, M, W, N, h1, hv⟩, h2, h3, h4⟩ := h
  have hU : UR u wm := h2.same hk.1 hk.2.2.2.2.1
  have hA : BRx b (wm.2.2 2) := by
    have e2 : wm.2.2 2 = F := hk.2.2.2.2.2.1
    rw [e2]
    exact BRx.eqS ⟨C, R, M, W, N, h1⟩ hF
  obtain ⟨u', m', e1, e2, e3, e4, e5, e6, e7, e8, e9, e10, e11⟩ := ends_eq hU hA ub.1
  obtain ⟨C', R', M', W', N', hb⟩ := hb
  refine ⟨u', m', e1, e2, e3, e4, e11, ⟨C', R', M', W', N', by rw [e6]; exact hb, VR_old _ _ _ _⟩, e5, h3.same (e8.trans hk.2.1) (e7.trans hk.2.2.2.2.2.2), ?_⟩
  rw [e9]
  exact h4.trans hk.2.2.1.symm
theorem clock_op (h : SR b s9 u x kk m) (a1 a2 : Int32) : ∃ (c : Nat) (r : Int32) (b' : BS) (s' : SS) (u' : US), pX11_setClock b s9 u kk a1 a2 = (c, (r, (b', s', u', kk))) ∧ kX11_setClock b s9 u kk a1 a2 ∧ kX12_setClock m a1 a2 ∧ SR b' s' u' x kk (pX12_setClock m a1 a2).2 ∧ endR mpB c r (pX12_setClock m a1 a2) ∧ c ≤ 3 := by
  have hh := h
  obtain ⟨⟨C, R, M, W, N, h1, hv⟩, h2, h3, h4⟩ := hh
  have hl := h1.le
  obtain ⟨p1, p2⟩ := hasM h1 a1
  unfold pX11_setClock kX11_setClock pX12_setClock kX12_setClock pX12_fails
  rw [p1, in_eq]
  by_cases c1 : pX12_isMicrophone m a1 = true
  · rw [if_pos c1, if_pos c1, c1, there_t, xb_yes]
    by_cases c2 : pX12_in a2 (-500) 500 = true
    · rw [if_pos c2, if_pos c2, c2, range_t, xb_yes]
      obtain ⟨i, hi, ei⟩ := p2 c1
      subst ei
      obtain ⟨F, f1, f2, f3⟩ := hold_eq m
      obtain ⟨o1, o2⟩ := of_eq (m := msa m 2 F) (i := i) (k := 2) (kk := 2) rfl (by omega) (by omega)
      obtain ⟨q1, q2⟩ := puts_eq (m := msa m 2 F) (i := i) (k := 2) (kk := 2) (x := a2) rfl (by omega) (by omega)
      obtain ⟨t1, t2⟩ := at9m (k := 2) (kk := 2) h1 rfl hi (by omega)
      obtain ⟨v1, v2⟩ := put9 (k := 2) (kk := 2) (x := a2) (f := b.2 0) h1 rfl hi (by omega)
      have hn := h1.clock hi (x := a2) ((in_iff _ _ _).mp c2)
      obtain ⟨u', m', e1, e2, e3, e4, e5, e6⟩ := und_1 h (ub := (m.2.2 0 (14 + 10 * i + 2), bst b 0 (nI M, upd (b.2 0) (i * 9 + 2) a2))) (wm := msa (msa m 2 F) 0 (upd (m.2.2 0) (14 + 10 * i + 2) a2)) f3 ⟨rfl, rfl, rfl, rfl, rfl, rfl, rfl⟩ ⟨C, R, M, W, N, hn⟩
      obtain ⟨u2, d1, d2, d3⟩ := save_eq (s9 := s9) (kk := kk) ⟨u', e1, e2⟩
      have eu : u2 = u' := by rw [d1] at e1; exact (Prod.mk.inj e1).1
      subst eu
      rw [d2, f1]
      have e3 : pX12_ends (msa (msa m 2 F) 0 (upd ((msa m 2 F).2.2 0) (14 + 10 * i + 2) a2)) (m.2.2 0 (14 + 10 * i + 2)) = (m.2.2 0 (14 + 10 * i + 2), m') := e3
      have o1 : pX12_of (msa m 2 F) (nI i) 2 = m.2.2 0 (14 + 10 * i + 2) := o1
      simp only [lt, bd, o1, q1, e3, t1]
      rw [h1.b4, v1]
      rw [h1.b4] at t2
      exact ⟨0, _, _, _, _, rfl, xk_yes (xk_yes ⟨d3, t2, v2⟩), ⟨f2, o2, q2, e4⟩, e6, ⟨e5, fun _ => rfl⟩, by decide⟩
    · rw [if_neg c2, if_neg c2, bool_no c2, range_f, xb_no _ _ (by decide)]
      exact ⟨2, 0, b, s9, u, rfl, xk_yes (xk_no _ (by decide)), trivial, h.i3 _, ⟨i3_3 _ _, fun h0 => absurd h0 (by decide)⟩, by decide⟩
  · rw [if_neg c1, if_neg c1, bool_no c1, there_f, xb_no _ _ (by decide)]
    exact ⟨1, 0, b, s9, u, rfl, xk_no _ (by decide), trivial, h.i3 _, ⟨i3_3 _ _, fun h0 => absurd h0 (by decide)⟩, by decide⟩
theorem setS_op (h : SR b s9 u x kk m) (a1 : Int32) : ∃ (c : Nat) (r : Int32) (b' : BS) (s' : SS) (u' : US), pX11_setS b s9 u kk a1 = (c, (r, (b', s', u', kk))) ∧ kX11_setS b s9 u kk a1 ∧ kX12_setS m a1 ∧ SR b' s' u' x kk (pX12_setS m a1).2 ∧ endR mpA c r (pX12_setS m a1) ∧ c ≤ 3 := by
  have hh := h
  obtain ⟨⟨C, R, M, W, N, h1, hv⟩, h2, h3, h4⟩ := hh
  unfold pX11_setS kX11_setS pX12_setS kX12_setS pX12_fails pX11_setS_L9 kX11_setS_L9
  by_cases c1 : a1 < 0
  · have c2 : ¬ (0 : Int32) ≤ a1 := fun e => by
      rw [fa_le] at e
      rw [fa_lt] at c1
      omega
    rw [if_pos c1, if_pos c1, if_neg c2, if_neg c2, range_f, xb_no _ _ (by decide)]
    exact ⟨2, 0, b, s9, u, rfl, xk_no _ (by decide), trivial, h.i3 _, ⟨i3_3 _ _, fun h0 => absurd h0 (by decide)⟩, by decide⟩
  · have c2 : (0 : Int32) ≤ a1 := fa_of_nlt c1
    rw [if_neg c1, if_neg c1, if_pos c2, if_pos c2, range_t, xb_yes]
    obtain ⟨F, f1, f2, f3⟩ := hold_eq m
    have hn := h1.s6 (x := a1) (by rw [fa_le] at c2; exact c2)
    obtain ⟨u', m', e1, e2, e3, e4, e5, e6⟩ := und_1 h (ub := (m.2.2 0 6, bsi b 3 a1)) (wm := msa (msa m 2 F) 0 (upd (m.2.2 0) 6 a1)) f3 ⟨rfl, rfl, rfl, rfl, rfl, rfl, rfl⟩ ⟨C, R, M, W, N, hn⟩
    obtain ⟨u2, d1, d2, d3⟩ := save_eq (s9 := s9) (kk := kk) ⟨u', e1, e2⟩
    have eu : u2 = u' := by rw [d1] at e1; exact (Prod.mk.inj e1).1
    subst eu
    rw [d2, f1]
    have e3 : pX12_ends (msa (msa m 2 F) 0 (upd ((msa m 2 F).2.2 0) 6 a1)) ((msa m 2 F).2.2 0 6) = (m.2.2 0 6, m') := e3
    simp only [lt, bd, e3]
    exact ⟨0, _, _, _, _, rfl, xk_yes d3, ⟨f2, e4⟩, e6, ⟨e5, fun _ => h1.b3⟩, by decide⟩
theorem undo_op (h : SR b s9 u x kk m) : ∃ (c : Nat) (r : Int32) (b' : BS) (s' : SS) (u' : US), pX11_undo s9 u b kk = (c, (r, (s', u', b', kk))) ∧ kX11_undo s9 u b kk ∧ kX12_undo m ∧ SR b' s' u' x kk (pX12_undo m).2 ∧ (pX12_undo m).2.1 3 = (if c = 0 then 0 else 1) ∧ (c = 0 → r = (pX12_undo m).1) ∧ c ≤ 3 := by
  have hh := h
  obtain ⟨⟨C, R, M, W, N, h1, hv⟩, h2, h3, h4⟩ := hh
  unfold pX11_undo kX11_undo pX11_undo_L15 kX11_undo_L15
  rcases undo_eq h2 b with ⟨e1, e2, e3⟩ | ⟨e1, e2, e3, u', b', m', e4, e5, e6, e7, e8, e9, e10, e11, e12⟩
  · rw [if_pos e1, if_pos e1, e2, show pX11_refuse 3 = 3 from rfl, xb_no _ _ (by decide)]
    exact ⟨3, 0, b, s9, u, rfl, xk_no _ (by decide), e3, h.i3 _, i3_3 _ _, fun h0 => absurd h0 (by decide), by decide⟩
  · obtain ⟨C', R', M', W', N', e7⟩ := e7
    rw [if_neg e1, if_neg e1, e5, show pX11_refuse 0 = 0 from rfl, xb_yes, e4]
    simp only [lt]
    exact ⟨0, _, b', pX8_outdate s9, u', rfl, xk_yes e3, e2, ⟨⟨C', R', M', W', N', e7, VR_old _ _ _ _⟩, e6, h3.same e9 e8, h4.trans e10.symm⟩, e12, fun _ => rfl, by decide⟩
end OPS
