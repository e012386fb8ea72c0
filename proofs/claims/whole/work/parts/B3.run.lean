/-! PURE: texts of commands: read and carried out on both sides -/
section RUNC
theorem ns_le {T : Nat → Int32} {n : Nat} : ∀ (d s : Nat), s ≤ n → (nsF T n d s).2 ≤ n := by
  intro d
  induction d with
  | zero =>
    intro s hs
    have g3 := sc_le (T := T) (n := n) (a := 32) (z := 32) hs
    show (if atB T n 59 59 (sk T n s) = true then sk T n (sk T n s + 1) else sk T n s) ≤ n
    by_cases h : atB T n 59 59 (sk T n s) = true
    · rw [if_pos h]
      have := at_lt h
      exact sc_le (by omega)
    · rw [if_neg h]
      exact g3
  | succ d ih =>
    intro s hs
    show (if nuO T n s = true then nsF T n d (nuE T n s) else (false, nuE T n s)).2 ≤ n
    by_cases co : nuO T n s = true
    · rw [if_pos co]
      exact ih _ (nu_le hs).1
    · rw [if_neg co]
      exact (nu_le hs).1
theorem ns_end {T : Nat → Int32} {n : Nat} : ∀ (d s : Nat), (nsF T n d s).1 = true → ¬ atB T n 32 32 (nsF T n d s).2 = true := by
  intro d
  induction d with
  | zero =>
    intro s h
    have h : atB T n 59 59 (sk T n s) = true := h
    have e2 : (nsF T n 0 s).2 = sk T n (sk T n s + 1) := by
      show (if _ then _ else _) = _
      rw [if_pos h]
    rw [e2]
    exact sc_end _
  | succ d ih =>
    intro s h
    by_cases co : nuO T n s = true
    · have eN : nsF T n (d + 1) s = nsF T n d (nuE T n s) := by
        show (if _ then _ else _) = _
        rw [if_pos co]
      rw [eN] at h ⊢
      exact ih _ h
    · have eN : nsF T n (d + 1) s = (false, nuE T n s) := by
        show (if _ then _ else _) = _
        rw [if_neg co]
      rw [eN] at h
      exact (Bool.false_ne_true h).elim
variable {x : TS} {n p c i : Nat} {rd rd' : RS}
theorem coR_le (hp : p ≤ n) : (coR x n p).2 ≤ n := by
  unfold coR
  cases coI x n p with
  | none => exact hp
  | some i => exact ns_le _ _ (sc_le hp)
theorem coR_end (h : (coR x n p).1 = true) : ¬ atB x.2 n 32 32 (coR x n p).2 = true := by
  unfold coR at h ⊢
  cases hc : coI x n p with
  | none => rw [hc] at h; exact (Bool.false_ne_true h).elim
  | some i => rw [hc] at h; exact ns_end _ _ h
/-- the fault of a text from p on -/
noncomputable def faF (x : TS) (n : Nat) : Nat → Nat → Int32
  | 0, _ => -1000000000
  | d + 1, p => if p < n then (if (coR x n p).1 = true then faF x n d (coR x n p).2 else nI (coR x n p).2) else -1000000000
theorem fault_m (hn : n ≤ 150) : ∀ (d p f : Nat), n - p < d → n - p < f → p ≤ n → ∀ m : MS, MT x n m p → ∃ (m' : MS) (p' : Nat), pX12_faultAt_L9 f m = (faF x n d p, m') ∧ kX12_faultAt_L9 f m ∧ sameP m m' ∧ p' ≤ n ∧ MT x n m' p' := by
  intro d
  induction d with
  | zero => intro p f h; omega
  | succ d ih =>
    intro p f hd hf hp m hm
    obtain ⟨f, rfl⟩ : ∃ g, f = g + 1 := ⟨f - 1, by omega⟩
    have eF : faF x n (d + 1) p = if p < n then (if (coR x n p).1 = true then faF x n d (coR x n p).2 else nI (coR x n p).2) else -1000000000 := rfl
    by_cases hpn : p < n
    · have hl : ¬ m.1 1 ≤ m.1 7 := by rw [hm.1, hm.2.1]; exact nI_ge hpn (by omega)
      obtain ⟨u, e1, e2, e3, e4, e5⟩ := isCmd_eq hn hp hm
      rw [eF, if_pos hpn]
      by_cases co : (coR x n p).1 = true
      · obtain ⟨l1, l2, -⟩ := co_len hn hp co
        obtain ⟨m', p', g1, g2, g3, g4, g5⟩ := ih (coR x n p).2 f (by omega) (by omega) l2 u e4
        refine ⟨m', p', ?_, ?_, e3.trans g3, g4, g5⟩
        · show bX12_faultAt_L9 _ _ = _
          unfold bX12_faultAt_L9
          rw [if_neg hl, e1]
          simp only [bd]
          rw [if_pos co, if_pos co]
          exact g1
        · show kbX12_faultAt_L9 _ _
          unfold kbX12_faultAt_L9
          rw [if_neg hl, e1]
          simp only [bd]
          rw [if_pos co]
          exact ⟨e2, g2⟩
      · refine ⟨u, _, ?_, ?_, e3, coR_le hp, e4⟩
        · show bX12_faultAt_L9 _ _ = _
          unfold bX12_faultAt_L9
          rw [if_neg hl, e1]
          simp only [bd]
          rw [if_neg co, if_neg co, e4.2.1]
        · show kbX12_faultAt_L9 _ _
          unfold kbX12_faultAt_L9
          rw [if_neg hl, e1]
          simp only [bd]
          rw [if_neg co]
          exact ⟨e2, trivial⟩
    · have hl : m.1 1 ≤ m.1 7 := by rw [hm.1, hm.2.1]; exact nI_le (by omega) (by omega)
      rw [eF, if_neg hpn]
      refine ⟨m, p, ?_, ?_, sameP.rfl' m, hp, hm⟩
      · show bX12_faultAt_L9 _ _ = _
        unfold bX12_faultAt_L9
        rw [if_pos hl]
      · show kbX12_faultAt_L9 _ _
        unfold kbX12_faultAt_L9
        rw [if_pos hl]
        trivial
/-- d commands from the c-th on, which stand from p on, are read -/
def goodC (x : TS) (n : Nat) (rd : RS) : Nat → Nat → Nat → Prop
  | 0, c, p => n ≤ p ∧ rd.1 0 = nI c
  | d + 1, c, p => p < n ∧ (coR x n p).1 = true ∧ entry x n c p rd ∧ goodC x n rd d (c + 1) (coR x n p).2
theorem read_c {e : Nat} (hx : x.1 = nI n) (hn : n ≤ 150) : ∀ (d p : Nat), n - p < d → p ≤ n → ¬ atB x.2 n 32 32 p = true → ∀ (c : Nat) (rd : RS), c * 8 ≤ p → rd.1 0 = nI c → rd.1 1 = 0 →
    ∃ rd', RD x n e p rd = (faF x n d p, rd', x) ∧ KD x n e p rd ∧ (faF x n d p = -1000000000 → (∃ D, c + D ≤ 18 ∧ goodC x n rd' D c p) ∧ (∀ j, j < c → rd'.2.2.1 j = rd.2.2.1 j) ∧ ∀ j, j < c * 4 → rd'.2.1 j = rd.2.1 j) := by
  intro d
  induction d with
  | zero => intro p h; omega
  | succ d ih =>
    intro p hd hp h32 c rd hcp h0 h1
    have eF : faF x n (d + 1) p = if p < n then (if (coR x n p).1 = true then faF x n d (coR x n p).2 else nI (coR x n p).2) else -1000000000 := rfl
    by_cases hpn : p < n
    · rw [eF, if_pos hpn]
      have hc8 : (coR x n p).1 = true → c < 18 := fun co => by
        obtain ⟨l1, l2, -⟩ := co_len hn hp co
        omega
      obtain ⟨a1, a2⟩ := cmd_c (e := e) hx hn hpn h32 (by omega) h0 h1 hc8
      by_cases co : (coR x n p).1 = true
      · obtain ⟨l1, l2, -⟩ := co_len hn hp co
        obtain ⟨r1, b1, b2, b3, b4, b5, b6⟩ := a1 co
        obtain ⟨r2, g1, g2, g3⟩ := ih (coR x n p).2 (by omega) l2 (coR_end co) (c + 1) r1 (by omega) b2 b3
        rw [if_pos co]
        refine ⟨r2, b1.1.trans g1, b1.2 g2, fun hF => ?_⟩
        obtain ⟨⟨D, hD, hg⟩, hcm, hnu⟩ := g3 hF
        obtain ⟨i, w1, w2, w3⟩ := b4
        obtain ⟨i1, -⟩ := pco_some hn hp w1
        obtain ⟨-, -, -, q4, -⟩ := wc_ok i i1
        refine ⟨⟨D + 1, by omega, hpn, co, ⟨i, w1, ?_, fun j hj => ?_⟩, hg⟩, fun j hj => ?_, fun j hj => ?_⟩
        · rw [hcm c (by omega)]; exact w2
        · rw [hnu (c * 4 + j) (by omega)]; exact w3 j hj
        · rw [hcm j (by omega)]; exact b5 j hj
        · rw [hnu j (by omega)]; exact b6 j hj
      · rw [if_neg co]
        obtain ⟨r1, b1, b2⟩ := a2 co
        exact ⟨r1, b1, b2, fun hF => absurd hF (nI_nNO (by have := coR_le (x := x) hp; omega))⟩
    · rw [eF, if_neg hpn]
      have ep : p = n := by omega
      subst ep
      obtain ⟨z1, z2⟩ := rd_end (e := e) (rd := rd) hx hn
      rw [h1, if_pos rfl] at z1
      exact ⟨rd, z1, z2, fun _ => ⟨⟨0, by omega, Nat.le_refl _, h0⟩, fun _ _ => rfl, fun _ _ => rfl⟩⟩
/-- the whole text read by the class -/
theorem read_eq (hx : x.1 = nI n) (hn : n ≤ 150) (rd : RS) : ∃ rd', pX4_read rd x = (faF x n 151 (sk x.2 n 0), rd', x) ∧ kX4_read rd x ∧ (faF x n 151 (sk x.2 n 0) = -1000000000 → ∃ D, D ≤ 18 ∧ goodC x n rd' D 0 (sk x.2 n 0)) := by
  obtain ⟨e, he⟩ : ∃ e, fu = n - 0 + 1 + e := ⟨fu - n - 1, by have := fu_ge; omega⟩
  have h0 : (dsi (dsi rd 0 0) 1 0).1 0 = nI 0 := by
    show upd (upd rd.1 0 0) 1 0 0 = _
    rw [upd_ne _ _ (by decide), upd_eq]; rfl
  have h1 : (dsi (dsi rd 0 0) 1 0).1 1 = 0 := dsi_eq _ _ _
  have f1 := front_sp (e := e) hx hn h1 0
  have hle := sc_le (T := x.2) (n := n) (a := 32) (z := 32) (Nat.zero_le n)
  obtain ⟨rd', g1, g2, g3⟩ := read_c (e := e) hx hn 151 (sk x.2 n 0) (by omega) hle (sc_end _) 0 (dsi (dsi rd 0 0) 1 0) (by omega) h0 h1
  refine ⟨rd', ?_, ?_, fun hF => ?_⟩
  · unfold pX4_read
    simp only [lt]
    rw [he]
    exact f1.1.trans g1
  · unfold kX4_read
    simp only [lt]
    rw [he]
    exact f1.2 g2
  · obtain ⟨⟨D, hD, hg⟩, -⟩ := g3 hF
    exact ⟨D, by omega, hg⟩
/-- the whole text read by the reference -/
theorem fault_eq {m : MS} {p : Nat} (hn : n ≤ 150) (hm : m.1 1 = nI n) (ht : ∀ q, q < n → m.2.2 3 q = x.2 q) : ∃ m' p', pX12_faultAt m = (faF x n 151 (sk x.2 n 0), m') ∧ kX12_faultAt m ∧ sameP m m' ∧ p' ≤ n ∧ MT x n m' p' := by
  have h0 : MT x n (msi m 7 0) 0 := ⟨by rw [msi_1, upd_ne _ _ (show (1 : Nat) ≠ 7 by decide)]; exact hm, by rw [msi_1, upd_eq]; rfl, ht⟩
  obtain ⟨u, s1, s2, s3, s4, s5⟩ := skips_eq hn (Nat.zero_le n) h0
  have hle := sc_le (T := x.2) (n := n) (a := 32) (z := 32) (Nat.zero_le n)
  obtain ⟨m', p', g1, g2, g3, g4, g5⟩ := fault_m (x := x) hn 151 (sk x.2 n 0) fu (by omega) (by have := fu_ge; omega) hle u s3
  refine ⟨m', p', ?_, ?_, ((sameP_i7 m 0).trans s4).trans g3, g4, g5⟩
  · unfold pX12_faultAt
    simp only [lt]
    rw [s1]
    exact g1
  · unfold kX12_faultAt
    simp only [lt]
    rw [s1]
    exact ⟨s2, g2⟩
theorem refSet_eq (b : BS) (w v : Int32) : pX2_refusalOfSetting b w v = (if pX12_isSetting w v = true then 0 else 2) ∧ kX2_refusalOfSetting b w v := by
  unfold pX2_refusalOfSetting kX2_refusalOfSetting
  rw [in_eq]
  by_cases c : pX12_in w 0 6 = true
  · rw [if_pos c, if_pos c]
    obtain ⟨k, k1, k2, ek⟩ := nI_of_rg (a := 0) (z := 6) ((in_iff _ _ _).mp c)
    subst ek
    refine ⟨?_, vp_in_n (by omega) (by omega), vp_in_n (by omega) (by omega)⟩
    rw [nI_clamp (by omega)]
    have hc : k = 0 ∨ k = 1 ∨ k = 2 ∨ k = 3 ∨ k = 4 ∨ k = 5 ∨ k = 6 := by omega
    rcases hc with rfl | rfl | rfl | rfl | rfl | rfl | rfl <;> rfl
  · rw [if_neg c, if_neg c]
    refine ⟨?_, trivial⟩
    have g : ∀ k : Nat, k ≤ 6 → ¬ w = nI k := fun k hk e => c ((in_iff _ _ _).mpr (by
      rw [e]
      unfold rg
      rw [nI_toInt (by omega)]
      exact ⟨show (0 : Int) ≤ k by omega, show (k : Int) ≤ 6 by omega⟩))
    have f : pX12_isSetting w v = false := by
      unfold pX12_isSetting
      rw [if_neg (show ¬ w = 0 from g 0 (by omega)), if_neg (show ¬ w = 1 from g 1 (by omega)), if_neg (show ¬ w = 2 from g 2 (by omega)), if_neg (show ¬ w = 3 from g 3 (by omega)), if_neg (show ¬ w = 4 from g 4 (by omega)), if_neg (show ¬ w = 5 from g 5 (by omega)), if_neg (show ¬ w = 6 from g 6 (by omega))]
    rw [f, if_neg (by decide)]
/-- a command refused or carried out, on both sides -/
def doneR (te : TS) (b : BS) (i : Nat) (A : Nat → Int32) (m : MS) : Prop := ∃ ρ : Int32, (∀ kk : Int32, pX11_refusalOf b kk (some i) (A 0) (A 1) (A 2) (A 3) = ρ ∧ kX11_refusalOf b kk (some i) (A 0) (A 1) (A 2) (A 3)) ∧ kX12_does m ∧
  ((ρ = 2 ∨ ρ = 3) ∧ pX12_does m = (ρ, m) ∨ ρ = 0 ∧ ∃ (te' : TS) (b' : BS) (m' : MS), pX11_carryOut te b 0 (some i) (A 0) (A 1) (A 2) (A 3) = (te', b', 0) ∧ kX11_carryOut te b 0 (some i) (A 0) (A 1) (A 2) (A 3) ∧ pX12_does m = (0, m') ∧ keeps m m' ∧ BRx b' (m'.2.2 0))
theorem done_of {te : TS} {b : BS} {i : Nat} {A : Nat → Int32} {m : MS} {ρ : Int32} {u : Int32 × TS × BS} {ku : Prop} {w : Int32 × MS} {kw : Prop} (hs : stepC m ρ u ku w kw) (r1 : ∀ kk : Int32, pX11_refusalOf b kk (some i) (A 0) (A 1) (A 2) (A 3) = ρ ∧ kX11_refusalOf b kk (some i) (A 0) (A 1) (A 2) (A 3)) (d1 : pX12_does m = w) (d2 : kw → kX12_does m) (c1 : pX11_carryOut te b 0 (some i) (A 0) (A 1) (A 2) (A 3) = (u.2.1, u.2.2, 0)) (c2 : ku → kX11_carryOut te b 0 (some i) (A 0) (A 1) (A 2) (A 3)) : doneR te b i A m := by
  obtain ⟨s1, s2⟩ := hs
  refine ⟨ρ, r1, d2 s1, ?_⟩
  rcases s2 with ⟨s2, s3⟩ | ⟨s2, s3, s4, s5, s6, s7⟩
  · exact Or.inl ⟨s2, d1.trans s3⟩
  · refine Or.inr ⟨s2, u.2.1, u.2.2, w.2, c1, c2 s3, ?_, s6, s7⟩
    rw [d1, ← s4]
theorem does_eq {te : TS} {b : BS} {A : Nat → Int32} {m : MS} (hi : i < 7) (hb : BRx b (m.2.2 0)) (hw : m.2.1 0 = lN (wcC i)) (hA : ∀ j, j < enM i → m.2.2 12 j = A j) : doneR te b i A m := by
  obtain ⟨C, R, M, W, N, hb⟩ := hb
  obtain ⟨l0, l1, l2, l3, l4, l5, l6⟩ := wc_lits
  have hc : i = 0 ∨ i = 1 ∨ i = 2 ∨ i = 3 ∨ i = 4 ∨ i = 5 ∨ i = 6 := by omega
  have nn : ∀ k : Nat, ¬ (some k : Option Nat) = none := fun k h => by cases h
  rcases hc with rfl | rfl | rfl | rfl | rfl | rfl | rfl
  · rw [l0] at hw
    have a0 := hA 0 (by decide)
    have a1 := hA 1 (by decide)
    refine done_of (u := ((pX2_startField b (A 0) (A 1)).1, te, (pX2_startField b (A 0) (A 1)).2)) (field_eq hb (A 0) (A 1)) (fun kk => ⟨rfl, ⟨0, by omega, rfl⟩, vp_in_n (i := 0) (by omega) (by omega), trivial⟩) ?_ (fun k => ?_) rfl (fun _ => ⟨⟨0, by omega, rfl⟩, vp_in_n (i := 0) (by omega) (by omega), trivial⟩)
    · unfold pX12_does
      simp only [lt]
      rw [hw, a0, a1, if_pos (by decide +kernel)]
      rfl
    · unfold kX12_does
      simp only [lt]
      rw [hw, a0, a1, if_pos (by decide +kernel)]
      exact k
  · rw [l1] at hw
    have a0 := hA 0 (by decide)
    have a1 := hA 1 (by decide)
    refine done_of (u := ((pX2_placeMicrophone b (A 0) (A 1)).1, te, (pX2_placeMicrophone b (A 0) (A 1)).2)) (mic_eq hb (A 0) (A 1)) (fun kk => ⟨rfl, ⟨1, by omega, rfl⟩, vp_in_n (i := 1) (by omega) (by omega), trivial⟩) ?_ (fun k => ?_) rfl (fun k => ⟨⟨1, by omega, rfl⟩, vp_in_n (i := 1) (by omega) (by omega), k⟩)
    · unfold pX12_does
      simp only [lt]
      rw [hw, a0, a1, if_neg (by decide +kernel), if_pos (by decide +kernel)]
      rfl
    · unfold kX12_does
      simp only [lt]
      rw [hw, a0, a1, if_neg (by decide +kernel), if_pos (by decide +kernel)]
      exact k
  · rw [l2] at hw
    have a0 := hA 0 (by decide)
    have a1 := hA 1 (by decide)
    have a2 := hA 2 (by decide)
    refine done_of (u := ((pX2_placeWall b (A 0) (A 1) (A 2)).1, te, (pX2_placeWall b (A 0) (A 1) (A 2)).2)) (wall_eq hb (A 0) (A 1) (A 2)) (fun kk => ⟨rfl, ⟨2, by omega, rfl⟩, vp_in_n (i := 2) (by omega) (by omega), trivial⟩) ?_ (fun k => ?_) rfl (fun k => ⟨⟨2, by omega, rfl⟩, vp_in_n (i := 2) (by omega) (by omega), k⟩)
    · unfold pX12_does
      simp only [lt]
      rw [hw, a0, a1, a2, if_neg (by decide +kernel), if_neg (by decide +kernel), if_pos (by decide +kernel)]
      rfl
    · unfold kX12_does
      simp only [lt]
      rw [hw, a0, a1, a2, if_neg (by decide +kernel), if_neg (by decide +kernel), if_pos (by decide +kernel)]
      exact k
  · rw [l3] at hw
    have a0 := hA 0 (by decide)
    have a1 := hA 1 (by decide)
    have a2 := hA 2 (by decide)
    have a3 := hA 3 (by decide)
    refine done_of (u := ((pX2_placeScreen b (A 0) (A 1) (A 2) (A 3)).1, te, (pX2_placeScreen b (A 0) (A 1) (A 2) (A 3)).2)) (screen_eq hb (A 0) (A 1) (A 2) (A 3)) (fun kk => ⟨rfl, ⟨3, by omega, rfl⟩, vp_in_n (i := 3) (by omega) (by omega), trivial⟩) ?_ (fun k => ?_) rfl (fun k => ⟨⟨3, by omega, rfl⟩, vp_in_n (i := 3) (by omega) (by omega), k⟩)
    · unfold pX12_does
      simp only [lt]
      rw [hw, a0, a1, a2, a3, if_neg (by decide +kernel), if_neg (by decide +kernel), if_neg (by decide +kernel), if_pos (by decide +kernel)]
      rfl
    · unfold kX12_does
      simp only [lt]
      rw [hw, a0, a1, a2, a3, if_neg (by decide +kernel), if_neg (by decide +kernel), if_neg (by decide +kernel), if_pos (by decide +kernel)]
      exact k
  · rw [l4] at hw
    have a0 := hA 0 (by decide)
    have a1 := hA 1 (by decide)
    obtain ⟨f1, f2⟩ := refSet_eq b (A 0) (A 1)
    refine done_of (u := ((pX2_changeSetting b (A 0) (A 1)).1, te, (pX2_changeSetting b (A 0) (A 1)).2)) (set_eq hb (A 0) (A 1) _ f1) (fun kk => ⟨rfl, ⟨4, by omega, rfl⟩, vp_in_n (i := 4) (by omega) (by omega), f2⟩) ?_ (fun k => ?_) rfl (fun k => ⟨⟨4, by omega, rfl⟩, vp_in_n (i := 4) (by omega) (by omega), k⟩)
    · unfold pX12_does
      simp only [lt]
      rw [hw, a0, a1, if_neg (by decide +kernel), if_neg (by decide +kernel), if_neg (by decide +kernel), if_neg (by decide +kernel), if_pos (by decide +kernel)]
      rfl
    · unfold kX12_does
      simp only [lt]
      rw [hw, a0, a1, if_neg (by decide +kernel), if_neg (by decide +kernel), if_neg (by decide +kernel), if_neg (by decide +kernel), if_pos (by decide +kernel)]
      exact k
  · rw [l5] at hw
    have a0 := hA 0 (by decide)
    have a1 := hA 1 (by decide)
    have a2 := hA 2 (by decide)
    refine done_of (u := pX6_hearClick te b (A 0) (A 1) (A 2)) (click_eq hb (A 0) (A 1) (A 2) te) (fun kk => ⟨rfl, ⟨5, by omega, rfl⟩, vp_in_n (i := 5) (by omega) (by omega), trivial⟩) ?_ (fun k => ?_) rfl (fun k => ⟨⟨5, by omega, rfl⟩, vp_in_n (i := 5) (by omega) (by omega), k⟩)
    · unfold pX12_does
      simp only [lt]
      rw [hw, a0, a1, a2, if_neg (by decide +kernel), if_neg (by decide +kernel), if_neg (by decide +kernel), if_neg (by decide +kernel), if_neg (by decide +kernel), if_pos (by decide +kernel)]
      rfl
    · unfold kX12_does
      simp only [lt]
      rw [hw, a0, a1, a2, if_neg (by decide +kernel), if_neg (by decide +kernel), if_neg (by decide +kernel), if_neg (by decide +kernel), if_neg (by decide +kernel), if_pos (by decide +kernel)]
      exact k
  · rw [l6] at hw
    have a0 := hA 0 (by decide)
    have a1 := hA 1 (by decide)
    have a2 := hA 2 (by decide)
    refine done_of (u := pX6_hearKnownClick te b (A 0) (A 1) (A 2)) (known_eq hb (A 0) (A 1) (A 2) te) (fun kk => ⟨rfl, ⟨6, by omega, rfl⟩, vp_in_n (i := 6) (by omega) (by omega), trivial⟩) ?_ (fun k => ?_) rfl (fun k => ⟨⟨6, by omega, rfl⟩, vp_in_n (i := 6) (by omega) (by omega), k⟩)
    · unfold pX12_does
      simp only [lt]
      rw [hw, a0, a1, a2, if_neg (by decide +kernel), if_neg (by decide +kernel), if_neg (by decide +kernel), if_neg (by decide +kernel), if_neg (by decide +kernel), if_neg (by decide +kernel)]
      rfl
    · unfold kX12_does
      simp only [lt]
      rw [hw, a0, a1, a2, if_neg (by decide +kernel), if_neg (by decide +kernel), if_neg (by decide +kernel), if_neg (by decide +kernel), if_neg (by decide +kernel), if_neg (by decide +kernel)]
      exact k
/-- kept while commands are carried out -/
def keepsQ (m m' : MS) : Prop := m'.1 0 = m.1 0 ∧ m'.1 1 = m.1 1 ∧ m'.2.2 1 = m.2.2 1 ∧ m'.2.2 2 = m.2.2 2 ∧ m'.2.2 3 = m.2.2 3
theorem keepsQ.trans {a b c : MS} (h : keepsQ a b) (g : keepsQ b c) : keepsQ a c := ⟨g.1.trans h.1, g.2.1.trans h.2.1, g.2.2.1.trans h.2.2.1, g.2.2.2.1.trans h.2.2.2.1, g.2.2.2.2.trans h.2.2.2.2⟩
theorem sameP.q {m m' : MS} (h : sameP m m') : keepsQ m m' := ⟨h.1 0 (by decide), h.1 1 (by decide), h.2 1 (by decide), h.2 2 (by decide), h.2 3 (by decide)⟩
theorem keeps.q {m m' : MS} (h : keeps m m') : keepsQ m m' := ⟨h.1, h.2.1, h.2.2.2.2.1, h.2.2.2.2.2.1, h.2.2.2.2.2.2⟩
theorem run_L (hn : n ≤ 150) {rd : RS} {s9 : SS} {u : US} : ∀ (D c p f g : Nat), c + D ≤ 18 → goodC x n rd D c p → p ≤ n → D < f → D + 1 < g → ∀ (te : TS) (b : BS) (m : MS), MT x n m p → BRx b (m.2.2 0) → m.1 2 = 0 → 
    ∃ (r : Int32) (te' : TS) (b' : BS) (m1 : MS), pX11_runCommands_L34 f (nI c) x rd te b s9 u 0 = (r, x, rd, te', b', s9, u, m1.1 2) ∧ kX11_runCommands_L34 f (nI c) x rd te b s9 u 0 ∧ pX12_runCommands_L40 g (nI c) m = ((pX12_ends m1 r).1, (pX12_ends m1 r).2) ∧ (kX12_ends m1 r → kX12_runCommands_L40 g (nI c) m) ∧ BRx b' (m1.2.2 0) ∧ keepsQ m m1 := by
  intro D
  induction D with
  | zero =>
    intro c p f g hc hg hp hf hgf te b m hm hb h2
    obtain ⟨f, rfl⟩ : ∃ z, f = z + 1 := ⟨f - 1, by omega⟩
    obtain ⟨g, rfl⟩ : ∃ z, g = z + 1 := ⟨g - 1, by omega⟩
    obtain ⟨g1, g2⟩ := hg
    have hl : m.1 1 ≤ m.1 7 := by rw [hm.1, hm.2.1]; exact nI_le g1 (by omega)
    have hcc : rd.1 0 ≤ nI c := by rw [g2]; exact nI_le (Nat.le_refl _) (by omega)
    refine ⟨nI c, te, b, m, ?_, ?_, ?_, fun k => ?_, hb, ⟨rfl, rfl, rfl, rfl, rfl⟩⟩
    · show bX11_runCommands_L34 _ _ _ _ _ _ _ _ _ = _
      unfold bX11_runCommands_L34
      rw [if_pos hcc, g2, h2]
    · show kbX11_runCommands_L34 _ _ _ _ _ _ _ _ _
      unfold kbX11_runCommands_L34
      rw [if_pos hcc]
      trivial
    · show bX12_runCommands_L40 _ _ _ = _
      unfold bX12_runCommands_L40 pX12_runCommands_L95
      rw [if_pos hl]
      rfl
    · show kbX12_runCommands_L40 _ _ _
      unfold kbX12_runCommands_L40 kX12_runCommands_L95
      rw [if_pos hl]
      exact k
  | succ D ih =>
    intro c p f g hc hg hp hf hgf te b m hm hb h2
    obtain ⟨f, rfl⟩ : ∃ z, f = z + 1 := ⟨f - 1, by omega⟩
    obtain ⟨g, rfl⟩ : ∃ z, g = z + 1 := ⟨g - 1, by omega⟩
    obtain ⟨g1, g2, ⟨i, g3, g4, g5⟩, g6⟩ := hg
    obtain ⟨i1, -⟩ := pco_some hn hp g3
    obtain ⟨-, -, -, q4, -⟩ := wc_ok i i1
    obtain ⟨l1, l2, -⟩ := co_len hn hp g2
    have hl : ¬ m.1 1 ≤ m.1 7 := by rw [hm.1, hm.2.1]; exact nI_ge g1 (by omega)
    have hcd : ∃ cnt : Nat, rd.1 0 = nI cnt ∧ c < cnt ∧ cnt ≤ 18 := by
      have key : ∀ (D c p : Nat), goodC x n rd D c p → rd.1 0 = nI (c + D) := by
        intro D
        induction D with
        | zero => intro c p h; exact h.2
        | succ D ih2 =>
          intro c p h
          have := ih2 (c + 1) _ h.2.2.2
          rw [this]
          congr 1
          omega
      exact ⟨c + 1 + D, key D (c + 1) _ g6, by omega, by omega⟩
    obtain ⟨cnt, hcnt, hcc, hcl⟩ := hcd
    have hnc : ¬ rd.1 0 ≤ nI c := by rw [hcnt]; exact nI_ge hcc (by omega)
    obtain ⟨m2, e1, e2, e3, e4, e5⟩ := isCmd_eq hn hp hm
    rw [g2] at e1
    obtain ⟨i', w1, w2, w3⟩ := e5 g2
    rw [g3] at w1
    cases w1
    -- the class's side
    have hcom : pX4_commandOf rd (nI c) = some i ∧ kX4_commandOf rd (nI c) := by
      have b1 : pX11_isBetween (nI c) 0 17 = true := by
        rw [in_eq]
        refine (in_iff _ _ _).mpr ⟨?_, ?_⟩ <;> rw [nI_toInt (by omega)]
        · show (0 : Int) ≤ c; omega
        · show (c : Int) ≤ 17; omega
      unfold pX4_commandOf kX4_commandOf
      rw [if_pos b1, if_pos b1, nI_clamp (by omega)]
      exact ⟨g4, vp_in_n (by omega) (by omega)⟩
    have hnum : ∀ k, k < 4 → pX4_numberOf rd (nI c) (nI k) = rd.2.1 (c * 4 + k) ∧ kX4_numberOf rd (nI c) (nI k) := fun k hk => by
      obtain ⟨v1, v2⟩ := numOf_eq (rd := rd) (c := c) (k := k) (by omega) hk
      exact ⟨v1 (by omega), v2⟩
    obtain ⟨n0, k0⟩ := hnum 0 (by omega)
    obtain ⟨n1, k1⟩ := hnum 1 (by omega)
    obtain ⟨n2, k2⟩ := hnum 2 (by omega)
    obtain ⟨n3, k3⟩ := hnum 3 (by omega)
    have hb2 : BRx b (m2.2.2 0) := by rw [e3.2 0 (by decide)]; exact hb
    obtain ⟨ρ, r1, r2, r3⟩ := does_eq (te := te) (A := fun j => rd.2.1 (c * 4 + j)) i1 hb2 w2 (fun j hj => by rw [w3 j hj]; exact (g5 j hj).symm)
    obtain ⟨r1a, r1b⟩ := r1 0
    have r1a : pX11_refusalOf b 0 (some i) (rd.2.1 (c * 4 + 0)) (rd.2.1 (c * 4 + 1)) (rd.2.1 (c * 4 + 2)) (rd.2.1 (c * 4 + 3)) = ρ := r1a
    have n0 : pX4_numberOf rd (nI c) 0 = rd.2.1 (c * 4 + 0) := n0
    have n1 : pX4_numberOf rd (nI c) 1 = rd.2.1 (c * 4 + 1) := n1
    have n2 : pX4_numberOf rd (nI c) 2 = rd.2.1 (c * 4 + 2) := n2
    have n3 : pX4_numberOf rd (nI c) 3 = rd.2.1 (c * 4 + 3) := n3
    rcases r3 with ⟨r4, r5⟩ | ⟨r4, te', b', m3, r5, r6, r7, r8, r9⟩
    · have nz : ¬ ρ = 0 := by rcases r4 with h | h <;> rw [h] <;> decide
      obtain ⟨g, rfl⟩ : ∃ z, g = z + 1 := ⟨g - 1, by omega⟩
      have nz2 : ¬ (msi m2 2 ρ).1 2 = 0 := by rw [msi_1, upd_eq]; exact nz
      refine ⟨nI c, te, b, msi m2 2 ρ, ?_, ?_, ?_, fun k => ?_, hb2, e3.q.trans ⟨rfl, rfl, rfl, rfl, rfl⟩⟩
      · show bX11_runCommands_L34 _ _ _ _ _ _ _ _ _ = _
        unfold bX11_runCommands_L34
        rw [if_neg hnc, hcom.1, n0, n1, n2, n3]
        simp only [lt]
        rw [r1a, if_neg nz, msi_1, upd_eq]
      · show kbX11_runCommands_L34 _ _ _ _ _ _ _ _ _
        unfold kbX11_runCommands_L34
        rw [if_neg hnc, hcom.1, n0, n1, n2, n3]
        simp only [lt]
        rw [r1a, if_neg nz]
        exact ⟨hcom.2, k0, k1, k2, k3, r1b, trivial⟩
      · show bX12_runCommands_L40 _ _ _ = _
        unfold bX12_runCommands_L40 pX12_runCommands_L74 pX12_runCommands_L90
        rw [if_neg hl, if_pos h2, e1]
        simp only [bd, lt, if_true]
        rw [r5]
        simp only []
        rw [if_neg nz2]
        show bX12_runCommands_L40 _ (nI c + bz false) _ = _
        unfold bX12_runCommands_L40 pX12_runCommands_L95
        rw [show nI c + bz false = nI c from nI_add c 0]
        by_cases h17 : (msi m2 2 ρ).1 1 ≤ (msi m2 2 ρ).1 7
        · rw [if_pos h17]; rfl
        · rw [if_neg h17, if_neg nz2]; rfl
      · show kbX12_runCommands_L40 _ _ _
        unfold kbX12_runCommands_L40 kX12_runCommands_L74 kX12_runCommands_L90
        rw [if_neg hl, if_pos h2, e1]
        simp only [bd, lt, if_true]
        rw [r5]
        simp only []
        rw [if_neg nz2]
        refine ⟨e2, r2, ?_⟩
        show kbX12_runCommands_L40 _ (nI c + bz false) _
        unfold kbX12_runCommands_L40 kX12_runCommands_L95
        rw [show nI c + bz false = nI c from nI_add c 0]
        by_cases h17 : (msi m2 2 ρ).1 1 ≤ (msi m2 2 ρ).1 7
        · rw [if_pos h17]; exact k
        · rw [if_neg h17, if_neg nz2]; exact k
    · subst r4
      have z2 : (msi m3 2 0).1 2 = 0 := by rw [msi_1, upd_eq]
      have hm3 : MT x n (msi m3 2 0) (coR x n p).2 := by
        refine ⟨?_, ?_, fun q hq => ?_⟩
        · rw [msi_1, upd_ne _ _ (by decide), r8.2.1]; exact e4.1
        · rw [msi_1, upd_ne _ _ (by decide), r8.2.2.2.1]; exact e4.2.1
        · rw [msi_3, r8.2.2.2.2.2.2]; exact e4.2.2 q hq
      obtain ⟨r, te2, b2, m1, f1, f2, f3, f4, f5, f6⟩ := ih (c + 1) (coR x n p).2 f g (by omega) g6 l2 (by omega) (by omega) te' b' (msi m3 2 0) hm3 r9 z2
      have r5 : pX11_carryOut te b 0 (some i) (rd.2.1 (c * 4 + 0)) (rd.2.1 (c * 4 + 1)) (rd.2.1 (c * 4 + 2)) (rd.2.1 (c * 4 + 3)) = (te', b', 0) := r5
      refine ⟨r, te2, b2, m1, ?_, ?_, ?_, fun k => ?_, f5, (e3.q.trans r8.q).trans (show keepsQ m3 m1 from (show keepsQ m3 (msi m3 2 0) from ⟨rfl, rfl, rfl, rfl, rfl⟩).trans f6)⟩
      · show bX11_runCommands_L34 _ _ _ _ _ _ _ _ _ = _
        unfold bX11_runCommands_L34
        rw [if_neg hnc, hcom.1, n0, n1, n2, n3]
        simp only [lt]
        rw [r1a, if_pos rfl, r5, nI_1]
        exact f1
      · show kbX11_runCommands_L34 _ _ _ _ _ _ _ _ _
        unfold kbX11_runCommands_L34
        rw [if_neg hnc, hcom.1, n0, n1, n2, n3]
        simp only [lt]
        rw [r1a, if_pos rfl, r5, nI_1]
        exact ⟨hcom.2, k0, k1, k2, k3, r1b, r6, f2⟩
      · show bX12_runCommands_L40 _ _ _ = _
        unfold bX12_runCommands_L40 pX12_runCommands_L74 pX12_runCommands_L90
        rw [if_neg hl, if_pos h2, e1]
        simp only [bd, lt, if_true]
        rw [r7]
        simp only []
        rw [if_pos z2, show nI c + bz true = nI (c + 1) from nI_1 c]
        exact f3
      · show kbX12_runCommands_L40 _ _ _
        unfold kbX12_runCommands_L40 kX12_runCommands_L74 kX12_runCommands_L90
        rw [if_neg hl, if_pos h2, e1]
        simp only [bd, lt, if_true]
        rw [r7]
        simp only []
        rw [if_pos z2, show nI c + bz true = nI (c + 1) from nI_1 c]
        exact ⟨e2, r2, f4 k⟩
/-- runCommands -/
theorem run_op {b : BS} {s9 : SS} {u : US} {kk : Int32} {m : MS} (h : SR b s9 u x kk m) (rd : RS) (te : TS) : ∃ (r : Int32) (rd' : RS) (te' : TS) (b' : BS) (s' : SS) (u' : US) (kk' : Int32), pX11_runCommands x rd te b s9 u kk = (r, x, rd', te', b', s', u', kk') ∧ kX11_runCommands x rd te b s9 u kk ∧ kX12_runCommands m ∧ SR b' s' u' x kk' (pX12_runCommands m).2 ∧ r = (pX12_runCommands m).1 := by
  have hh := h
  obtain ⟨⟨C, R, M, W, N, h1, hv⟩, h2, ⟨n, n1, n2, n3, n4⟩, h4⟩ := hh
  obtain ⟨rd', g1, g2, g3⟩ := read_eq n2 n1 rd
  obtain ⟨m1, p1, f1, f2, f3, f4, f5⟩ := fault_eq (x := x) (p := 0) n1 n3 (fun q hq => (n4 q hq).1.symm)
  unfold pX11_runCommands kX11_runCommands pX12_runCommands kX12_runCommands
  rw [g1, f1]
  simp only [bd]
  have ks : keeps m m1 → SR b s9 u x kk m1 := fun k => h.same k (f3.2 0 (by decide))
  by_cases hF : faF x n 151 (sk x.2 n 0) = -1000000000
  · rw [hF]
    simp only [if_true]
    obtain ⟨D, hD, hg⟩ := g3 hF
    obtain ⟨A, a1, a2, a3⟩ := hold_eq m1
    have hm0 : MT x n (msi (msi (msa m1 2 A) 2 0) 7 0) 0 := by
      refine ⟨?_, by rw [msi_1, upd_eq]; rfl, fun q hq => ?_⟩
      · show upd (upd m1.1 2 0) 7 0 1 = _
        rw [upd_ne _ _ (by decide), upd_ne _ _ (by decide)]; exact f5.1
      · show updA m1.2.2 2 A 3 q = _
        rw [updA_ne _ _ (by decide)]; exact f5.2.2 q hq
    obtain ⟨v, s1, s2, s3, s4, s5⟩ := skips_eq n1 (Nat.zero_le n) hm0
    have hle := sc_le (T := x.2) (n := n) (a := 32) (z := 32) (Nat.zero_le n)
    have ev0 : v.2.2 0 = m.2.2 0 := by
      rw [s5]
      show updA m1.2.2 2 A 0 = _
      rw [updA_ne _ _ (by decide)]
      exact f3.2 0 (by decide)
    have ev2 : v.1 2 = 0 := by
      rw [s4.1 2 (by decide)]
      show upd (upd m1.1 2 0) 7 0 2 = _
      rw [upd_ne _ _ (by decide), upd_eq]
    have hbv : BRx b (v.2.2 0) := by rw [ev0]; exact ⟨C, R, M, W, N, h1⟩
    -- push
    have hU0 : UR u v := h2.same (by
      rw [s4.1 0 (by decide)]
      show upd (upd m1.1 2 0) 7 0 0 = _
      rw [upd_ne _ _ (by decide), upd_ne _ _ (by decide)]
      exact f3.1 0 (by decide)) (by
      rw [s5]
      show updA m1.2.2 2 A 1 = _
      rw [updA_ne _ _ (by decide)]
      exact f3.2 1 (by decide))
    have hA0 : BRx b (v.2.2 2) := by
      have e2 : v.2.2 2 = A := by
        rw [s5]
        show updA m1.2.2 2 A 2 = _
        rw [updA_eq]
      rw [e2]
      refine BRx.eqS ⟨C, R, M, W, N, h1⟩ (fun q hq => ?_)
      rw [a3 q hq, f3.2 0 (by decide)]
    obtain ⟨u0, -, t1, t2, -⟩ := ends_eq hU0 hA0 0
    obtain ⟨u2, d1, d2, d3⟩ := save_eq (s9 := s9) (kk := kk) ⟨u0, t1, t2⟩
    have eu : u2 = u0 := by rw [d1] at t1; exact (Prod.mk.inj t1).1
    subst eu
    obtain ⟨r, te', b', m9, w1, w2, w3, w4, w5, w6⟩ := run_L (x := x) (rd := rd') (s9 := pX8_outdate s9) (u := u2) n1 D 0 (sk x.2 n 0) fu fu (by omega) hg hle (by have := fu_ge; omega) (by have := fu_ge; omega) te b v s3 hbv ev2
    have hU9 : UR u m9 := hU0.same w6.1 w6.2.2.1
    have hA9 : BRx b (m9.2.2 2) := by rw [w6.2.2.2.1]; exact hA0
    obtain ⟨u3, m', z1, z2, z3, z4, z5, z6, z7, z8, z9, z10, z11⟩ := ends_eq hU9 hA9 r
    have eu3 : u3 = u2 := by rw [d1] at z1; exact (Prod.mk.inj z1).1.symm
    subst eu3
    obtain ⟨C', R', M', W', N', w5⟩ := w5
    rw [d2, a1]
    simp only [lt]
    rw [s1]
    have w1 : pX11_runCommands_L34 fu 0 x rd' te b (pX8_outdate s9) u3 0 = (r, x, rd', te', b', pX8_outdate s9, u3, m9.1 2) := w1
    have w3 : pX12_runCommands_L40 fu 0 v = ((pX12_ends m9 r).1, (pX12_ends m9 r).2) := w3
    rw [w1, w3, z3]
    refine ⟨r, rd', te', b', pX8_outdate s9, u3, m9.1 2, rfl, ⟨g2, d3, w2⟩, ⟨f2, a2, s2, w4 z4⟩, ⟨⟨C', R', M', W', N', by rw [z6]; exact w5, VR_old _ _ _ _⟩, z5, ⟨n, n1, n2, ?_, fun q hq => ?_⟩, z9.symm⟩, rfl⟩
    · rw [z8, w6.2.1]; exact s3.1
    · rw [z7, w6.2.2.2.2]
      exact ⟨(s3.2.2 q hq).symm, (n4 q hq).2⟩
  · simp only [if_neg hF]
    unfold pX12_tells
    refine ⟨_, rd', te, b, s9, u, kk, rfl, ⟨g2, trivial⟩, ⟨f2, trivial⟩, ?_, rfl⟩
    refine ⟨⟨C, R, M, W, N, ?_, ?_⟩, h2.same ?_ ?_, ⟨n, n1, n2, ?_, fun q hq => ?_⟩, ?_⟩
    · show BR C R M W N b (m1.2.2 0)
      rw [f3.2 0 (by decide)]; exact h1
    · show VR (m1.2.2 0) M (C * R) s9
      rw [f3.2 0 (by decide)]; exact hv
    · show upd m1.1 3 0 0 = _
      rw [upd_ne _ _ (by decide)]; exact f3.1 0 (by decide)
    · exact f3.2 1 (by decide)
    · show upd m1.1 3 0 1 = _
      rw [upd_ne _ _ (by decide)]; exact f5.1
    · show x.2 q = m1.2.2 3 q ∧ _
      exact ⟨(f5.2.2 q hq).symm, (n4 q hq).2⟩
    · show kk = upd m1.1 3 0 2
      rw [upd_ne _ _ (by decide), f3.1 2 (by decide)]; exact h4
end RUNC
