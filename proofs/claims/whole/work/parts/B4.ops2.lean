/-! PURE: settings and parts asked -/
section OPS2
variable {C R M W N : Nat} {b b' : BS} {S S' : Nat → Int32} {m m' : MS} {s9 : SS} {u : US} {x : TS} {kk : Int32}
theorem set_op (h : SR b s9 u x kk m) (a1 a2 : Int32) : ∃ (c : Nat) (r : Int32) (b' : BS) (s' : SS) (u' : US), pX11_set b s9 u kk a1 a2 = (c, (r, (b', s', u', kk))) ∧ kX11_set b s9 u kk a1 a2 ∧ kX12_set m a1 a2 ∧ SR b' s' u' x kk (pX12_set m a1 a2).2 ∧ endR mpA c r (pX12_set m a1 a2) ∧ c ≤ 3 := by
  obtain ⟨f1, f2⟩ := refSet_eq b a1 a2
  obtain ⟨w, w1, w2, w3⟩ := und_op h (ρ := pX2_refusalOfSetting b a1 a2) (ub := pX2_changeSetting b a1 a2) (ku := kX2_changeSetting b a1 a2) (act := fun m => pX12_sets m a1 a2) (kact := fun m => kX12_sets m a1 a2) (fun C R M W N m1 hb => set_eq hb a1 a2 _ f1)
  have w1 : pX12_set m a1 a2 = w := w1
  rw [w1]
  unfold pX11_set kX11_set
  rcases w3 with ⟨e1, e2, e3⟩ | ⟨e1, e2, u', e3, e4, e5, e6, e7⟩
  · obtain ⟨c, c1, c2, c3, c4⟩ := refuse_e e1
    rw [c1, xb_no _ _ c2]
    exact ⟨c, 0, b, s9, u, rfl, ⟨f2, xk_no _ c2⟩, w2, e3, ⟨by rw [e2, c4], fun h0 => absurd h0 c2⟩, c3⟩
  · obtain ⟨u2, d1, d2, d3⟩ := save_eq (s9 := s9) (kk := kk) ⟨u', e3, e4⟩
    have eu : u2 = u' := by rw [d1] at e3; exact (Prod.mk.inj e3).1
    subst eu
    rw [e1, show pX11_refuse 0 = 0 from rfl, xb_yes, d2]
    simp only [lt, bd]
    exact ⟨0, _, _, _, _, rfl, ⟨f2, xk_yes ⟨d3, e2⟩⟩, w2, e7, ⟨e6, fun _ => e5.symm⟩, by decide⟩
theorem prt0 {i c : Nat} (hi : i < 8) (hc : c < 4) : pX12_partOf m (nI 0) (nI i) (nI c) = m.2.2 0 (14 + 10 * i + c) ∧ kX12_partOf m (nI 0) (nI i) (nI c) := part0 hi hc
theorem prt1 {i c : Nat} (hi : i < 4) (hc : c < 3) : pX12_partOf m (nI 1) (nI i) (nI c) = m.2.2 0 (94 + 3 * i + c) ∧ kX12_partOf m (nI 1) (nI i) (nI c) := by
  have e : pX12_startOf (nI 1) + pX12_wide (nI 1) * nI i + nI c = nI (94 + 3 * i + c) := by
    show (94 : Int32) + 3 * nI i + nI c = _
    rw [show (3 : Int32) = nI 3 from rfl, show (94 : Int32) = nI 94 from rfl, pk_mul, nI_add, nI_add]
  unfold pX12_partOf kX12_partOf
  rw [if_neg (show ¬ nI 1 = 3 by decide), if_neg (show ¬ nI 1 = 3 by decide), e, nI_clamp (by omega)]
  exact ⟨rfl, vp_in_n (by omega) (by omega)⟩
theorem prt2 {i c : Nat} (hi : i < 4) (hc : c < 4) : pX12_partOf m (nI 2) (nI i) (nI c) = m.2.2 0 (106 + 4 * i + c) ∧ kX12_partOf m (nI 2) (nI i) (nI c) := by
  have e : pX12_startOf (nI 2) + pX12_wide (nI 2) * nI i + nI c = nI (106 + 4 * i + c) := by
    show (106 : Int32) + 4 * nI i + nI c = _
    rw [show (4 : Int32) = nI 4 from rfl, show (106 : Int32) = nI 106 from rfl, pk_mul, nI_add, nI_add]
  unfold pX12_partOf kX12_partOf
  rw [if_neg (show ¬ nI 2 = 3 by decide), if_neg (show ¬ nI 2 = 3 by decide), e, nI_clamp (by omega)]
  exact ⟨rfl, vp_in_n (by omega) (by omega)⟩
theorem prt3 {i c : Nat} (hi : i < 7) : pX12_partOf m (nI 3) (nI i) (nI c) = m.2.2 0 (7 + i) ∧ kX12_partOf m (nI 3) (nI i) (nI c) := by
  unfold pX12_partOf kX12_partOf
  rw [if_pos (show nI 3 = 3 from rfl), if_pos (show nI 3 = 3 from rfl), show (7 : Int32) + nI i = nI (7 + i) from nI_add 7 i, nI_clamp (by omega)]
  exact ⟨rfl, vp_in_n (by omega) (by omega)⟩
theorem at1' (h : BR C R M W N b S) {i c : Nat} (hi : i < 7) (hc : c < 1) : pX9_at 7 1 7 (b.1 7, b.2 3) (nI i) (nI c) = S (7 + i) ∧ kX9_at 7 1 7 (b.1 7, b.2 3) (nI i) (nI c) := by
  have e : c = 0 := by omega
  subst e
  exact at1 h rfl hi
/-- the reference's part(k, a2, a3): k with W' values a place, n' places -/
theorem part_m {k W' n' : Nat} (hk : k ≤ 3) (hn : n' ≤ 8) (e2 : pX12_parts (nI k) = nI W') (hW : W' ≤ 4) (ht : k < 3 → m.2.2 0 (2 + k) = nI n') (h7 : k = 3 → n' = 7) (a2 a3 : Int32) :
    (¬ (0 ≤ a3.toInt ∧ a3.toInt < W') → pX12_part m (nI k) a2 a3 = (0, msi m 3 1) ∧ kX12_part m (nI k) a2 a3) ∧
    ((0 ≤ a3.toInt ∧ a3.toInt < W') → ¬ (0 ≤ a2.toInt ∧ a2.toInt < n') → pX12_part m (nI k) a2 a3 = (0, msi m 3 2) ∧ kX12_part m (nI k) a2 a3) ∧
    ((0 ≤ a3.toInt ∧ a3.toInt < W') → (0 ≤ a2.toInt ∧ a2.toInt < n') → kX12_partOf m (nI k) a2 a3 → pX12_part m (nI k) a2 a3 = (pX12_partOf m (nI k) a2 a3, msi m 3 0) ∧ kX12_part m (nI k) a2 a3) := by
  have z0 : ((0 : Int32)).toInt = 0 := rfl
  have tk := nI_toInt (n := k) (by omega)
  have tw := nI_toInt (n := W') (by omega)
  have tn := nI_toInt (n := n') (by omega)
  have c1 : pX12_in (nI k) 0 3 = true := (in_iff _ _ _).mpr (by
    unfold rg
    rw [tk]
    exact ⟨show (0 : Int) ≤ k by omega, show (k : Int) ≤ 3 by omega⟩)
  have L50 : ∀ t1 : Int32, t1 = nI n' → (¬ a2 < nI n' → pX12_part_L50 (nI k) a2 a3 a2 t1 m = (0, msi m 3 2) ∧ kX12_part_L50 (nI k) a2 a3 a2 t1 m) ∧ (a2 < nI n' → kX12_partOf m (nI k) a2 a3 → pX12_part_L50 (nI k) a2 a3 a2 t1 m = (pX12_partOf m (nI k) a2 a3, msi m 3 0) ∧ kX12_part_L50 (nI k) a2 a3 a2 t1 m) := by
    intro t1 h1
    subst h1
    unfold pX12_part_L50 kX12_part_L50
    refine ⟨fun h => ?_, fun h hk => ?_⟩
    · rw [if_neg h, if_neg h]; exact ⟨rfl, trivial⟩
    · rw [if_pos h, if_pos h]; exact ⟨rfl, hk⟩
  have go : ¬ a3 < 0 → a3 < nI W' → ¬ a2 < 0 → ∃ t1 : Int32, t1 = nI n' ∧ pX12_part m (nI k) a2 a3 = pX12_part_L50 (nI k) a2 a3 a2 t1 m ∧ (kX12_part_L50 (nI k) a2 a3 a2 t1 m → kX12_part m (nI k) a2 a3) := by
    intro n3 y3 n2
    unfold pX12_part kX12_part
    rw [if_pos c1, if_pos c1, if_neg n3, if_neg n3, e2, if_pos y3, if_pos y3, if_neg n2, if_neg n2]
    by_cases k3 : k = 3
    · have e3 : nI k = 3 := by rw [k3]; rfl
      have en : n' = 7 := h7 k3
      rw [if_pos e3, if_pos e3]
      exact ⟨7, by rw [en]; rfl, rfl, fun q => q⟩
    · have e3 : ¬ nI k = 3 := fun e => by
        have := congrArg Int32.toInt e
        rw [tk] at this
        have this : (k : Int) = 3 := this
        omega
      have hix : (2 + nI k : Int32) = nI (2 + k) := nI_add 2 k
      rw [if_neg e3, if_neg e3, hix, nI_clamp (by omega)]
      exact ⟨_, ht (by omega), rfl, fun q => ⟨vp_in_n (by omega) (by omega), q⟩⟩
  refine ⟨fun h => ?_, fun h3 h2 => ?_, fun h3 h2 hp => ?_⟩
  · unfold pX12_part kX12_part
    rw [if_pos c1, if_pos c1]
    by_cases n3 : a3 < 0
    · rw [if_pos n3, if_pos n3]; exact ⟨rfl, trivial⟩
    · rw [if_neg n3, if_neg n3, e2]
      have y3 : ¬ a3 < nI W' := by
        rw [fa_lt, z0] at n3
        rw [fa_lt, tw]
        omega
      rw [if_neg y3, if_neg y3]
      exact ⟨rfl, trivial⟩
  · have n3 : ¬ a3 < 0 := by rw [fa_lt, z0]; omega
    have y3 : a3 < nI W' := by rw [fa_lt, tw]; omega
    by_cases n2 : a2 < 0
    · unfold pX12_part kX12_part
      rw [if_pos c1, if_pos c1, if_neg n3, if_neg n3, e2, if_pos y3, if_pos y3, if_pos n2, if_pos n2]
      exact ⟨rfl, trivial⟩
    · have y2 : ¬ a2 < nI n' := by
        rw [fa_lt, z0] at n2
        rw [fa_lt, tn]
        omega
      obtain ⟨t1, h1, g1, g2⟩ := go n3 y3 n2
      obtain ⟨g3, g4⟩ := (L50 t1 h1).1 y2
      exact ⟨g1.trans g3, g2 g4⟩
  · have n3 : ¬ a3 < 0 := by rw [fa_lt, z0]; omega
    have y3 : a3 < nI W' := by rw [fa_lt, tw]; omega
    have n2 : ¬ a2 < 0 := by rw [fa_lt, z0]; omega
    have y2 : a2 < nI n' := by rw [fa_lt, tn]; omega
    obtain ⟨t1, h1, g1, g2⟩ := go n3 y3 n2
    obtain ⟨g3, g4⟩ := (L50 t1 h1).2 y2 hp
    exact ⟨g1.trans g3, g2 g4⟩
theorem part_op (h : SR b s9 u x kk m) (a1 a2 a3 : Int32) : ∃ (c : Nat) (r : Int32), pX11_part b kk a1 a2 a3 = (c, (r, (b, kk))) ∧ kX11_part b kk a1 a2 a3 ∧ kX12_part m a1 a2 a3 ∧ SR b s9 u x kk (pX12_part m a1 a2 a3).2 ∧ endR mpA c r (pX12_part m a1 a2 a3) ∧ c ≤ 3 := by
  have hh := h
  obtain ⟨⟨C, R, M, W, N, h1, hv⟩, h2, h3, h4⟩ := hh
  have hl := h1.le
  have no2 : pX11_part_L33 a1 a2 a3 b kk = (2, ((0 : Int32), (b, kk))) ∧ kX11_part_L33 a1 a2 a3 b kk := by
    unfold pX11_part_L33 kX11_part_L33 pX11_part_L34 kX11_part_L34
    rw [range_f, xb_no _ _ (by decide)]
    exact ⟨rfl, xk_no _ (by decide)⟩
  by_cases c1 : pX12_in a1 0 3 = true
  · obtain ⟨k, k1, k2, ek⟩ := nI_of_rg (a := 0) (z := 3) ((in_iff _ _ _).mp c1)
    subst ek
    have hc : k = 0 ∨ k = 1 ∨ k = 2 ∨ k = 3 := by omega
    rcases hc with rfl | rfl | rfl | rfl
    · have T : pX2_tableOf b (nI 0) = 0 := rfl
      have eL : sL0.getD (nI 0).toNatClampNeg 0 - 1 = nI 3 := by decide +kernel
      have V : vp_in (nI 0) 4 := vp_in_n (by omega) (by omega)
      obtain ⟨q1, q2, q3⟩ := part_m (m := m) (k := 0) (W' := 4) (n' := M) (by omega) (by omega) (by rfl) (by omega) (fun _ => h1.eM) (fun h => absurd h (by decide)) a2 a3
      have i3 : pX12_in a3 0 (nI 3) = true ↔ (0 ≤ a3.toInt ∧ a3.toInt < (4 : Nat)) := by
        rw [in_iff]
        unfold rg
        rw [nI_toInt (by omega)]
        show ((0 : Int) ≤ _ ∧ _) ↔ _
        omega
      unfold pX11_part kX11_part
      rw [show (4 - 1 : Int32) = 3 from rfl, in_eq, in_eq, if_pos c1, if_pos c1, eL]
      by_cases c3 : pX12_in a3 0 (nI 3) = true
      · have c3' := i3.mp c3
        rw [if_pos c3, if_pos c3]
        unfold pX11_part_L34 kX11_part_L34
        rw [range_t, xb_yes, T]
        rw [if_pos rfl, if_pos rfl]
        rw [h1.b4, has_eq (by omega)]
        by_cases c2 : 0 ≤ a2.toInt ∧ a2.toInt < (M : Nat)
        · rw [decide_eq_true c2, there_t, xb_yes]
          obtain ⟨i, hi, ei⟩ : ∃ i : Nat, i < M ∧ a2 = nI i := ⟨a2.toInt.toNat, by omega, pu_nI c2.1⟩
          obtain ⟨c, hc, ec⟩ : ∃ c : Nat, c < 4 ∧ a3 = nI c := ⟨a3.toInt.toNat, by omega, pu_nI c3'.1⟩
          subst ei ec
          obtain ⟨t1, t2⟩ := at9m (k := c) (kk := nI c) h1 rfl hi hc
          obtain ⟨t3, t4⟩ := prt0 (m := m) (i := i) (c := c) (by omega) hc
          rw [h1.b4] at t1 t2
          obtain ⟨g1, g2⟩ := q3 c3' c2 t4
          rw [g1, t1, t3]
          exact ⟨0, _, rfl, ⟨V, xk_yes (xk_yes t2)⟩, g2, h.i3 _, ⟨i3_3 _ _, fun _ => rfl⟩, by decide⟩
        · rw [decide_eq_false c2, there_f, xb_no _ _ (by decide)]
          obtain ⟨g1, g2⟩ := q2 c3' c2
          rw [g1]
          exact ⟨1, 0, rfl, ⟨V, xk_yes (xk_no _ (by decide))⟩, g2, h.i3 _, ⟨i3_3 _ _, fun h0 => absurd h0 (by decide)⟩, by decide⟩
      · obtain ⟨g1, g2⟩ := q1 (fun q => c3 (i3.mpr q))
        rw [if_neg c3, if_neg c3, no2.1, g1]
        exact ⟨2, 0, rfl, ⟨V, no2.2⟩, g2, h.i3 _, ⟨i3_3 _ _, fun h0 => absurd h0 (by decide)⟩, by decide⟩
    · have T : pX2_tableOf b (nI 1) = 1 := rfl
      have eL : sL0.getD (nI 1).toNatClampNeg 0 - 1 = nI 2 := by decide +kernel
      have V : vp_in (nI 1) 4 := vp_in_n (by omega) (by omega)
      obtain ⟨q1, q2, q3⟩ := part_m (m := m) (k := 1) (W' := 3) (n' := W) (by omega) (by omega) (by rfl) (by omega) (fun _ => h1.eW) (fun h => absurd h (by decide)) a2 a3
      have i3 : pX12_in a3 0 (nI 2) = true ↔ (0 ≤ a3.toInt ∧ a3.toInt < (3 : Nat)) := by
        rw [in_iff]
        unfold rg
        rw [nI_toInt (by omega)]
        show ((0 : Int) ≤ _ ∧ _) ↔ _
        omega
      unfold pX11_part kX11_part
      rw [show (4 - 1 : Int32) = 3 from rfl, in_eq, in_eq, if_pos c1, if_pos c1, eL]
      by_cases c3 : pX12_in a3 0 (nI 2) = true
      · have c3' := i3.mp c3
        rw [if_pos c3, if_pos c3]
        unfold pX11_part_L34 kX11_part_L34
        rw [range_t, xb_yes, T]
        simp only [if_neg (show ¬ (1 : Nat) = 0 by decide), if_true, if_false]
        rw [h1.b5, has_eq (by omega)]
        by_cases c2 : 0 ≤ a2.toInt ∧ a2.toInt < (W : Nat)
        · rw [decide_eq_true c2, there_t, xb_yes]
          obtain ⟨i, hi, ei⟩ : ∃ i : Nat, i < W ∧ a2 = nI i := ⟨a2.toInt.toNat, by omega, pu_nI c2.1⟩
          obtain ⟨c, hc, ec⟩ : ∃ c : Nat, c < 3 ∧ a3 = nI c := ⟨a3.toInt.toNat, by omega, pu_nI c3'.1⟩
          subst ei ec
          obtain ⟨t1, t2⟩ := at3 (k := c) (kk := nI c) h1 rfl hi hc
          obtain ⟨t3, t4⟩ := prt1 (m := m) (i := i) (c := c) (by omega) hc
          rw [h1.b5] at t1 t2
          obtain ⟨g1, g2⟩ := q3 c3' c2 t4
          rw [g1, t1, t3]
          exact ⟨0, _, rfl, ⟨V, xk_yes (xk_yes t2)⟩, g2, h.i3 _, ⟨i3_3 _ _, fun _ => rfl⟩, by decide⟩
        · rw [decide_eq_false c2, there_f, xb_no _ _ (by decide)]
          obtain ⟨g1, g2⟩ := q2 c3' c2
          rw [g1]
          exact ⟨1, 0, rfl, ⟨V, xk_yes (xk_no _ (by decide))⟩, g2, h.i3 _, ⟨i3_3 _ _, fun h0 => absurd h0 (by decide)⟩, by decide⟩
      · obtain ⟨g1, g2⟩ := q1 (fun q => c3 (i3.mpr q))
        rw [if_neg c3, if_neg c3, no2.1, g1]
        exact ⟨2, 0, rfl, ⟨V, no2.2⟩, g2, h.i3 _, ⟨i3_3 _ _, fun h0 => absurd h0 (by decide)⟩, by decide⟩
    · have T : pX2_tableOf b (nI 2) = 2 := rfl
      have eL : sL0.getD (nI 2).toNatClampNeg 0 - 1 = nI 3 := by decide +kernel
      have V : vp_in (nI 2) 4 := vp_in_n (by omega) (by omega)
      obtain ⟨q1, q2, q3⟩ := part_m (m := m) (k := 2) (W' := 4) (n' := N) (by omega) (by omega) (by rfl) (by omega) (fun _ => h1.eN) (fun h => absurd h (by decide)) a2 a3
      have i3 : pX12_in a3 0 (nI 3) = true ↔ (0 ≤ a3.toInt ∧ a3.toInt < (4 : Nat)) := by
        rw [in_iff]
        unfold rg
        rw [nI_toInt (by omega)]
        show ((0 : Int) ≤ _ ∧ _) ↔ _
        omega
      unfold pX11_part kX11_part
      rw [show (4 - 1 : Int32) = 3 from rfl, in_eq, in_eq, if_pos c1, if_pos c1, eL]
      by_cases c3 : pX12_in a3 0 (nI 3) = true
      · have c3' := i3.mp c3
        rw [if_pos c3, if_pos c3]
        unfold pX11_part_L34 kX11_part_L34
        rw [range_t, xb_yes, T]
        simp only [if_neg (show ¬ (2 : Nat) = 0 by decide), if_neg (show ¬ (2 : Nat) = 1 by decide), if_true, if_false]
        rw [h1.b6, has_eq (by omega)]
        by_cases c2 : 0 ≤ a2.toInt ∧ a2.toInt < (N : Nat)
        · rw [decide_eq_true c2, there_t, xb_yes]
          obtain ⟨i, hi, ei⟩ : ∃ i : Nat, i < N ∧ a2 = nI i := ⟨a2.toInt.toNat, by omega, pu_nI c2.1⟩
          obtain ⟨c, hc, ec⟩ : ∃ c : Nat, c < 4 ∧ a3 = nI c := ⟨a3.toInt.toNat, by omega, pu_nI c3'.1⟩
          subst ei ec
          obtain ⟨t1, t2⟩ := at4 (k := c) (kk := nI c) h1 rfl hi hc
          obtain ⟨t3, t4⟩ := prt2 (m := m) (i := i) (c := c) (by omega) hc
          rw [h1.b6] at t1 t2
          obtain ⟨g1, g2⟩ := q3 c3' c2 t4
          rw [g1, t1, t3]
          exact ⟨0, _, rfl, ⟨V, xk_yes (xk_yes t2)⟩, g2, h.i3 _, ⟨i3_3 _ _, fun _ => rfl⟩, by decide⟩
        · rw [decide_eq_false c2, there_f, xb_no _ _ (by decide)]
          obtain ⟨g1, g2⟩ := q2 c3' c2
          rw [g1]
          exact ⟨1, 0, rfl, ⟨V, xk_yes (xk_no _ (by decide))⟩, g2, h.i3 _, ⟨i3_3 _ _, fun h0 => absurd h0 (by decide)⟩, by decide⟩
      · obtain ⟨g1, g2⟩ := q1 (fun q => c3 (i3.mpr q))
        rw [if_neg c3, if_neg c3, no2.1, g1]
        exact ⟨2, 0, rfl, ⟨V, no2.2⟩, g2, h.i3 _, ⟨i3_3 _ _, fun h0 => absurd h0 (by decide)⟩, by decide⟩
    · have T : pX2_tableOf b (nI 3) = 3 := rfl
      have eL : sL0.getD (nI 3).toNatClampNeg 0 - 1 = nI 0 := by decide +kernel
      have V : vp_in (nI 3) 4 := vp_in_n (by omega) (by omega)
      obtain ⟨q1, q2, q3⟩ := part_m (m := m) (k := 3) (W' := 1) (n' := 7) (by omega) (by omega) (by rfl) (by omega) (fun h => absurd h (by decide)) (fun _ => rfl) a2 a3
      have i3 : pX12_in a3 0 (nI 0) = true ↔ (0 ≤ a3.toInt ∧ a3.toInt < (1 : Nat)) := by
        rw [in_iff]
        unfold rg
        rw [nI_toInt (by omega)]
        show ((0 : Int) ≤ _ ∧ _) ↔ _
        omega
      unfold pX11_part kX11_part
      rw [show (4 - 1 : Int32) = 3 from rfl, in_eq, in_eq, if_pos c1, if_pos c1, eL]
      by_cases c3 : pX12_in a3 0 (nI 0) = true
      · have c3' := i3.mp c3
        rw [if_pos c3, if_pos c3]
        unfold pX11_part_L34 kX11_part_L34
        rw [range_t, xb_yes, T]
        simp only [if_neg (show ¬ (3 : Nat) = 0 by decide), if_neg (show ¬ (3 : Nat) = 1 by decide), if_neg (show ¬ (3 : Nat) = 2 by decide), if_true, if_false]
        rw [h1.b7, has_eq (by omega)]
        by_cases c2 : 0 ≤ a2.toInt ∧ a2.toInt < (7 : Nat)
        · rw [decide_eq_true c2, there_t, xb_yes]
          obtain ⟨i, hi, ei⟩ : ∃ i : Nat, i < 7 ∧ a2 = nI i := ⟨a2.toInt.toNat, by omega, pu_nI c2.1⟩
          obtain ⟨c, hc, ec⟩ : ∃ c : Nat, c < 1 ∧ a3 = nI c := ⟨a3.toInt.toNat, by omega, pu_nI c3'.1⟩
          subst ei ec
          obtain ⟨t1, t2⟩ := at1' h1 (c := c) hi hc
          obtain ⟨t3, t4⟩ := prt3 (m := m) (i := i) (c := c) hi
          rw [h1.b7] at t1 t2
          obtain ⟨g1, g2⟩ := q3 c3' c2 t4
          rw [g1, t1, t3]
          exact ⟨0, _, rfl, ⟨V, xk_yes ⟨trivial, xk_yes t2⟩⟩, g2, h.i3 _, ⟨i3_3 _ _, fun _ => rfl⟩, by decide⟩
        · rw [decide_eq_false c2, there_f, xb_no _ _ (by decide)]
          obtain ⟨g1, g2⟩ := q2 c3' c2
          rw [g1]
          exact ⟨1, 0, rfl, ⟨V, xk_yes ⟨trivial, xk_no _ (by decide)⟩⟩, g2, h.i3 _, ⟨i3_3 _ _, fun h0 => absurd h0 (by decide)⟩, by decide⟩
      · obtain ⟨g1, g2⟩ := q1 (fun q => c3 (i3.mpr q))
        rw [if_neg c3, if_neg c3, no2.1, g1]
        exact ⟨2, 0, rfl, ⟨V, no2.2⟩, g2, h.i3 _, ⟨i3_3 _ _, fun h0 => absurd h0 (by decide)⟩, by decide⟩
  · unfold pX11_part kX11_part
    rw [show (4 - 1 : Int32) = 3 from rfl, in_eq, if_neg c1, if_neg c1, no2.1]
    unfold pX12_part kX12_part
    rw [if_neg c1, if_neg c1]
    exact ⟨2, 0, rfl, no2.2, trivial, h.i3 _, ⟨i3_3 _ _, fun h0 => absurd h0 (by decide)⟩, by decide⟩
end OPS2
