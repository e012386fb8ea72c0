noncomputable def pX12_timeFrom (m : MS) (a1 : Int32) (a2 : Int32) : Int32 := pX12_timeOf m (pX12_wayTo m ((100 * (a1 - a1 / ((m.2.2 0) 0) * ((m.2.2 0) 0))) + 50) ((100 * (a1 / ((m.2.2 0) 0))) + 50) a2)
def kX12_timeFrom (m : MS) (a1 : Int32) (a2 : Int32) : Prop := (¬ ((m.2.2 0) 0) = 0) ∧ ((¬ ((m.2.2 0) 0) = 0) ∧ ((kX12_wayTo m ((100 * (a1 - a1 / ((m.2.2 0) 0) * ((m.2.2 0) 0))) + 50) ((100 * (a1 / ((m.2.2 0) 0))) + 50) a2) ∧ (kX12_timeOf m (pX12_wayTo m ((100 * (a1 - a1 / ((m.2.2 0) 0) * ((m.2.2 0) 0))) + 50) ((100 * (a1 / ((m.2.2 0) 0))) + 50) a2))))
abbrev rX12_timeFrom : Room := { frames := 2, cells := 0, slots := 0, locals := 48 }
set_option maxHeartbeats 4000000 in
set_option maxRecDepth 100000 in
theorem mX12_timeFrom (l : Launch) (dC : Nat → ClassId) (dI : Nat → Nat → Nat) (cI cB cO cL : ClassId) (q : Nat → Nat) (m : MS) (a1 : Int32) (a2 : Int32) (hok : kX12_timeFrom m a1 a2) : Met l yX12_timeFrom wsX12_timeFrom rX12_timeFrom (gP (dC, dI) (tYS cI cB cO cL) (mw q cI m) [.ref (q 0), .int a1, .int a2]) (gRi (pX12_timeFrom m a1 a2)) 0 0 (fun _ => False) := by
  refine gMet (cc := cX12_timeFrom) (maxL := 3) (ret := some .int) [(0, .ref (q 0)), (1, .int a1), (2, .int a2)] (by decide) rfl rfl rfl ?_
  intro p e s mi below meth c C0 hK hP ls hl
  obtain ⟨hx, hb, hr, hml, hown, hts, hlocks⟩ := id C0
  have hown : s.vm.findClass RX12 = some mi.cls := hown
  obtain ⟨F, hF⟩ : ∃ F, F = pX12_timeFrom m a1 a2 := ⟨_, rfl⟩
  have hf := hF
  have hin12 : ∀ w ∈ u_ws RX12 TX12 23, w ∈ wsX12_timeFrom := by decide +kernel
  have fl7 := hts (.fieldLink RX12 7 "ClickBenchModel" "s" "[I") (by decide +kernel)
  refine lv_aload_n hx hb dX12_timeFrom_0 rfl (lv_at hl 0 rfl) ?_
  refine lv_aload_n hx hb dX12_timeFrom_1 rfl (lv_at hl 0 rfl) ?_
  refine lv_bipush (v := 100) hx hb dX12_timeFrom_2 (by decide) ?_
  refine lv_iload_n hx hb dX12_timeFrom_4 rfl (lv_at hl 1 rfl) ?_
  refine lv_aload_n hx hb dX12_timeFrom_5 rfl (lv_at hl 0 rfl) ?_
  refine va_get (D := (dC, dI)) (ci := 9) (v := .ref (q 1)) (C := RX12) (T := TX12) (N := 23) hx hb hts hin12 hown hK hP 0 rfl rfl 0 (by decide) fl7 (fun _ h9 => h9) rfl dX12_timeFrom_6 ?_
  refine lv_iconst (v := 0) hx hb dX12_timeFrom_9 (by decide) ?_
  refine g_ialdK (D := (dC, dI)) (tys := (tYS cI cB cO cL)) (k := 0) hx hb hK hP 1 0 rfl rfl (by decide) (by decide) (by decide) dX12_timeFrom_10 ?_
  obtain ⟨h1, hok⟩ := hok
  refine lv_irem hx hb dX12_timeFrom_11 h1 ?_
  refine lv_imul hx hb dX12_timeFrom_12 ?_
  refine lv_bipush (v := 50) hx hb dX12_timeFrom_13 (by decide) ?_
  refine lv_iadd hx hb dX12_timeFrom_15 ?_
  refine lv_bipush (v := 100) hx hb dX12_timeFrom_16 (by decide) ?_
  refine lv_iload_n hx hb dX12_timeFrom_18 rfl (lv_at hl 1 rfl) ?_
  refine lv_aload_n hx hb dX12_timeFrom_19 rfl (lv_at hl 0 rfl) ?_
  refine va_get (D := (dC, dI)) (ci := 9) (v := .ref (q 1)) (C := RX12) (T := TX12) (N := 23) hx hb hts hin12 hown hK hP 0 rfl rfl 0 (by decide) fl7 (fun _ h9 => h9) rfl dX12_timeFrom_20 ?_
  refine lv_iconst (v := 0) hx hb dX12_timeFrom_23 (by decide) ?_
  refine g_ialdK (D := (dC, dI)) (tys := (tYS cI cB cO cL)) (k := 0) hx hb hK hP 1 0 rfl rfl (by decide) (by decide) (by decide) dX12_timeFrom_24 ?_
  obtain ⟨h2, hok⟩ := hok
  refine lv_idiv hx hb dX12_timeFrom_25 h2 ?_
  refine lv_imul hx hb dX12_timeFrom_26 ?_
  refine lv_bipush (v := 50) hx hb dX12_timeFrom_27 (by decide) ?_
  refine lv_iadd hx hb dX12_timeFrom_29 ?_
  refine lv_iload_n hx hb dX12_timeFrom_30 rfl (lv_at hl 2 rfl) ?_
  obtain ⟨h3, hok⟩ := hok
  refine gro_i (va_runV (As := [.int ((100 * (a1 - a1 / ((m.2.2 0) 0) * ((m.2.2 0) 0))) + 50), .int ((100 * (a1 / ((m.2.2 0) 0))) + 50), .int a2]) (rest := [.ref (q 0)]) ⟨hx, hb, hml, hown, hts⟩ (mX12_wayTo l dC dI cI cB cO cL q m ((100 * (a1 - a1 / ((m.2.2 0) 0) * ((m.2.2 0) 0))) + 50) ((100 * (a1 / ((m.2.2 0) 0))) + 50) a2  h3) (cwV 3 hts gX12_timeFrom_X12_wayTo rfl rfl rfl (by decide +kernel) ⟨Nat.le_of_ble_eq_true rfl, Nat.le_of_ble_eq_true rfl⟩) ⟨gP_blind, va_recv hK hP (ci := 9) (q0 := 0) rfl rfl, gP_ok hP hK⟩ rfl rfl hl.1 rfl (lv_room (Nat.le_of_ble_eq_true rfl)) dX12_timeFrom_31 ⟨Nat.zero_le _, Nat.zero_le _⟩) ?_
  have h4 : kX12_timeOf m (pX12_wayTo m ((100 * (a1 - a1 / ((m.2.2 0) 0) * ((m.2.2 0) 0))) + 50) ((100 * (a1 / ((m.2.2 0) 0))) + 50) a2) := hok
  refine gro_i (va_runV (As := [.int (pX12_wayTo m ((100 * (a1 - a1 / ((m.2.2 0) 0) * ((m.2.2 0) 0))) + 50) ((100 * (a1 / ((m.2.2 0) 0))) + 50) a2)]) (rest := []) ⟨hx, hb, hml, hown, hts⟩ (mX12_timeOf l dC dI cI cB cO cL q m (pX12_wayTo m ((100 * (a1 - a1 / ((m.2.2 0) 0) * ((m.2.2 0) 0))) + 50) ((100 * (a1 / ((m.2.2 0) 0))) + 50) a2)  h4) (cwV 1 hts gX12_timeFrom_X12_timeOf rfl rfl rfl (by decide +kernel) ⟨Nat.le_of_ble_eq_true rfl, Nat.le_of_ble_eq_true rfl⟩) ⟨gP_blind, va_recv hK hP (ci := 9) (q0 := 0) rfl rfl, gP_ok hP hK⟩ rfl rfl hl.1 rfl (lv_room (Nat.le_of_ble_eq_true rfl)) dX12_timeFrom_34 ⟨Nat.zero_le _, Nat.zero_le _⟩) ?_
  exact e_ri C0 (hf.symm.trans hF) dX12_timeFrom_37
noncomputable def pX12_apart (a1 : Int32) (a2 : Int32) : Int32 := if a2 ≤ a1 then (a1 - a2) else (a2 - a1)
abbrev rX12_apart : Room := { frames := 0, cells := 0, slots := 0, locals := 0 }
set_option maxHeartbeats 4000000 in
set_option maxRecDepth 100000 in
theorem mX12_apart (l : Launch) (dC : Nat → ClassId) (dI : Nat → Nat → Nat) (cI cB cO cL : ClassId)  (a1 : Int32) (a2 : Int32) : Met l yX12_apart wsX12_apart rX12_apart (gP (dC, dI) (tYS cI cB cO cL) ([]) [.int a1, .int a2]) (gRi (pX12_apart a1 a2)) 0 0 (fun _ => False) := by
  refine gMet (cc := cX12_apart) (maxL := 2) (ret := some .int) [(0, .int a1), (1, .int a2)] (by decide) rfl rfl rfl ?_
  intro p e s mi below meth c C0 hK hP ls hl
  obtain ⟨hx, hb, hr, hml, hown, hts, hlocks⟩ := id C0
  have hown : s.vm.findClass RX12 = some mi.cls := hown
  obtain ⟨F, hF⟩ : ∃ F, F = pX12_apart a1 a2 := ⟨_, rfl⟩
  have hf := hF
  refine lv_iload_n hx hb dX12_apart_0 rfl (lv_at hl 0 rfl) ?_
  refine lv_iload_n hx hb dX12_apart_1 rfl (lv_at hl 1 rfl) ?_
  refine lv_icmp_ge (tgt := 11) hx hb dX12_apart_2 (by decide) (fun c1 => ?_) (fun c1 => ?_)
  · have hf := it_eq c1 hf
    refine lv_iload_n hx hb dX12_apart_11 rfl (lv_at hl 0 rfl) ?_
    refine lv_iload_n hx hb dX12_apart_12 rfl (lv_at hl 1 rfl) ?_
    refine lv_isub hx hb dX12_apart_13 ?_
    exact e_ri C0 (hf.symm.trans hF) dX12_apart_14
  · have hf := ie_eq c1 hf
    refine lv_iload_n hx hb dX12_apart_5 rfl (lv_at hl 1 rfl) ?_
    refine lv_iload_n hx hb dX12_apart_6 rfl (lv_at hl 0 rfl) ?_
    refine lv_isub hx hb dX12_apart_7 ?_
    refine lv_goto (tgt := 14) hx hb dX12_apart_8 (by decide) ?_
    exact e_ri C0 (hf.symm.trans hF) dX12_apart_14
noncomputable def pX12_arePair (m : MS) (a1 : Int32) (a2 : Int32) (a3 : Int32) : Bool := if a1 = a3 then (false) else (if a2 = a3 then (false) else (if (pX12_of m a1 4) = 1 then (if (pX12_of m a2 4) = 1 then (true) else (false)) else (false)))
def kX12_arePair (m : MS) (a1 : Int32) (a2 : Int32) (a3 : Int32) : Prop := if a1 = a3 then (True) else (if a2 = a3 then (True) else ((kX12_of m a1 4) ∧ (if (pX12_of m a1 4) = 1 then (kX12_of m a2 4) else (True))))
abbrev rX12_arePair : Room := { frames := 1, cells := 0, slots := 0, locals := 22 }
set_option maxHeartbeats 4000000 in
set_option maxRecDepth 100000 in
theorem mX12_arePair (l : Launch) (dC : Nat → ClassId) (dI : Nat → Nat → Nat) (cI cB cO cL : ClassId) (q : Nat → Nat) (m : MS) (a1 : Int32) (a2 : Int32) (a3 : Int32) (hok : kX12_arePair m a1 a2 a3) : Met l yX12_arePair wsX12_arePair rX12_arePair (gP (dC, dI) (tYS cI cB cO cL) (mw q cI m) [.ref (q 0), .int a1, .int a2, .int a3]) (gRz (pX12_arePair m a1 a2 a3)) 0 0 (fun _ => False) := by
  refine gMet (cc := cX12_arePair) (maxL := 4) (ret := some .boolean) [(0, .ref (q 0)), (1, .int a1), (2, .int a2), (3, .int a3)] (by decide) rfl rfl rfl ?_
  intro p e s mi below meth c C0 hK hP ls hl
  obtain ⟨hx, hb, hr, hml, hown, hts, hlocks⟩ := id C0
  have hown : s.vm.findClass RX12 = some mi.cls := hown
  obtain ⟨F, hF⟩ : ∃ F, F = pX12_arePair m a1 a2 a3 := ⟨_, rfl⟩
  have hf := hF
  refine lv_iload_n hx hb dX12_arePair_0 rfl (lv_at hl 1 rfl) ?_
  refine lv_iload_n hx hb dX12_arePair_1 rfl (lv_at hl 3 rfl) ?_
  refine lv_icmp_eq (tgt := 34) hx hb dX12_arePair_2 (by decide) (fun c1 => ?_) (fun c1 => ?_)
  · have hf := it_eq c1 hf
    refine lv_iconst (v := 0) hx hb dX12_arePair_34 (by decide) ?_
    exact e_rz C0 (b := false) rfl (hf.symm.trans hF) dX12_arePair_35
  · have hf := ie_eq c1 hf
    have hok := ie_ok c1 hok
    refine lv_iload_n hx hb dX12_arePair_5 rfl (lv_at hl 2 rfl) ?_
    refine lv_iload_n hx hb dX12_arePair_6 rfl (lv_at hl 3 rfl) ?_
    refine lv_icmp_eq (tgt := 34) hx hb dX12_arePair_7 (by decide) (fun c2 => ?_) (fun c2 => ?_)
    · have hf := it_eq c2 hf
      refine lv_iconst (v := 0) hx hb dX12_arePair_34 (by decide) ?_
      exact e_rz C0 (b := false) rfl (hf.symm.trans hF) dX12_arePair_35
    · have hf := ie_eq c2 hf
      have hok := ie_ok c2 hok
      refine lv_aload_n hx hb dX12_arePair_10 rfl (lv_at hl 0 rfl) ?_
      refine lv_iload_n hx hb dX12_arePair_11 rfl (lv_at hl 1 rfl) ?_
      refine lv_iconst (v := 4) hx hb dX12_arePair_12 (by decide) ?_
      obtain ⟨h3, hok⟩ := hok
      refine gro_i (va_runV (As := [.int a1, .int 4]) (rest := []) ⟨hx, hb, hml, hown, hts⟩ (mX12_of l dC dI cI cB cO cL q m a1 4  h3) (cwV 2 hts gX12_arePair_X12_of rfl rfl rfl (by decide +kernel) ⟨Nat.le_of_ble_eq_true rfl, Nat.le_of_ble_eq_true rfl⟩) ⟨gP_blind, va_recv hK hP (ci := 9) (q0 := 0) rfl rfl, gP_ok hP hK⟩ rfl rfl hl.1 rfl (lv_room (Nat.le_of_ble_eq_true rfl)) dX12_arePair_13 ⟨Nat.zero_le _, Nat.zero_le _⟩) ?_
      refine lv_iconst (v := 1) hx hb dX12_arePair_16 (by decide) ?_
      refine lv_icmp_ne (tgt := 34) hx hb dX12_arePair_17 (by decide) (fun c4 => ?_) (fun c4 => ?_)
      · have hf := ie_eq c4 hf
        refine lv_iconst (v := 0) hx hb dX12_arePair_34 (by decide) ?_
        exact e_rz C0 (b := false) rfl (hf.symm.trans hF) dX12_arePair_35
      · have hf := it_eq c4 hf
        have hok := it_ok c4 hok
        refine lv_aload_n hx hb dX12_arePair_20 rfl (lv_at hl 0 rfl) ?_
        refine lv_iload_n hx hb dX12_arePair_21 rfl (lv_at hl 2 rfl) ?_
        refine lv_iconst (v := 4) hx hb dX12_arePair_22 (by decide) ?_
        have h5 : kX12_of m a2 4 := hok
        refine gro_i (va_runV (As := [.int a2, .int 4]) (rest := []) ⟨hx, hb, hml, hown, hts⟩ (mX12_of l dC dI cI cB cO cL q m a2 4  h5) (cwV 2 hts gX12_arePair_X12_of rfl rfl rfl (by decide +kernel) ⟨Nat.le_of_ble_eq_true rfl, Nat.le_of_ble_eq_true rfl⟩) ⟨gP_blind, va_recv hK hP (ci := 9) (q0 := 0) rfl rfl, gP_ok hP hK⟩ rfl rfl hl.1 rfl (lv_room (Nat.le_of_ble_eq_true rfl)) dX12_arePair_23 ⟨Nat.zero_le _, Nat.zero_le _⟩) ?_
        refine lv_iconst (v := 1) hx hb dX12_arePair_26 (by decide) ?_
        refine lv_icmp_ne (tgt := 34) hx hb dX12_arePair_27 (by decide) (fun c6 => ?_) (fun c6 => ?_)
        · have hf := ie_eq c6 hf
          refine lv_iconst (v := 0) hx hb dX12_arePair_34 (by decide) ?_
          exact e_rz C0 (b := false) rfl (hf.symm.trans hF) dX12_arePair_35
        · have hf := it_eq c6 hf
          refine lv_iconst (v := 1) hx hb dX12_arePair_30 (by decide) ?_
          refine lv_goto (tgt := 35) hx hb dX12_arePair_31 (by decide) ?_
          exact e_rz C0 (b := true) rfl (hf.symm.trans hF) dX12_arePair_35
noncomputable def pX12_votesAt_L168  (q_51 : Int32 → Int32 → Int32 → MS → MS) (q_66 : Int32 → Int32 → Int32 → Int32 → MS → MS) (v1_168 : Int32) (v2_168 : Int32) (v3_168 : Int32) (v4_168 : Int32) (m_168 : MS) : MS := lt (v4_168 + 1) fun (x13 : Int32) => q_66 v1_168 v2_168 v3_168 x13 m_168
def kX12_votesAt_L168  (Q_51 : Int32 → Int32 → Int32 → MS → Prop) (Q_66 : Int32 → Int32 → Int32 → Int32 → MS → Prop) (v1_168 : Int32) (v2_168 : Int32) (v3_168 : Int32) (v4_168 : Int32) (m_168 : MS) : Prop := lt (v4_168 + 1) fun (x13 : Int32) => Q_66 v1_168 v2_168 v3_168 x13 m_168
noncomputable def pX12_votesAt_L145  (q_51 : Int32 → Int32 → Int32 → MS → MS) (q_66 : Int32 → Int32 → Int32 → Int32 → MS → MS) (v1_145 : Int32) (v2_145 : Int32) (v3_145 : Int32) (v4_145 : Int32) (v5_145 : Int32) (t1_145 : Int32) (t2_145 : Int32) (t3_145 : Bool) (m_145 : MS) : MS := lt (msa m_145 9 (upd (m_145.2.2 9) t1_145.toNatClampNeg (t2_145 + (bz t3_145)))) fun (m_19 : MS) => lt (msa m_19 10 (upd (m_19.2.2 10) v1_145.toNatClampNeg (((m_19.2.2 10) v1_145.toNatClampNeg) + v5_145))) fun (m_21 : MS) => lt (msi m_21 6 ((m_21.1 6) + 1)) fun (m_22 : MS) => pX12_votesAt_L168 q_51 q_66 v1_145 v2_145 v3_145 v4_145 m_22
def kX12_votesAt_L145  (Q_51 : Int32 → Int32 → Int32 → MS → Prop) (Q_66 : Int32 → Int32 → Int32 → Int32 → MS → Prop) (v1_145 : Int32) (v2_145 : Int32) (v3_145 : Int32) (v4_145 : Int32) (v5_145 : Int32) (t1_145 : Int32) (t2_145 : Int32) (t3_145 : Bool) (m_145 : MS) : Prop := (vp_in t1_145 400) ∧ (lt (msa m_145 9 (upd (m_145.2.2 9) t1_145.toNatClampNeg (t2_145 + (bz t3_145)))) fun (m_19 : MS) => (vp_in v1_145 400) ∧ ((vp_in v1_145 400) ∧ (lt (msa m_19 10 (upd (m_19.2.2 10) v1_145.toNatClampNeg (((m_19.2.2 10) v1_145.toNatClampNeg) + v5_145))) fun (m_21 : MS) => lt (msi m_21 6 ((m_21.1 6) + 1)) fun (m_22 : MS) => kX12_votesAt_L168 Q_51 Q_66 v1_145 v2_145 v3_145 v4_145 m_22)))
noncomputable def bX12_votesAt_L66  (q_51 : Int32 → Int32 → Int32 → MS → MS) (q_66 : Int32 → Int32 → Int32 → Int32 → MS → MS) (v1_66 : Int32) (v2_66 : Int32) (v3_66 : Int32) (v4_66 : Int32) (m_66 : MS) : MS := if ((m_66.2.2 0) 2) ≤ v4_66 then (lt (v3_66 + 1) fun (x10 : Int32) => q_51 v1_66 v2_66 x10 m_66) else (if (pX12_arePair m_66 v3_66 v4_66 v2_66) = true then (lt (pX12_apart ((pX12_of m_66 v3_66 5) - (pX12_of m_66 v4_66 5)) (((m_66.2.2 11) v3_66.toNatClampNeg) - ((m_66.2.2 11) v4_66.toNatClampNeg))) fun (x16 : Int32) => if ((m_66.2.2 0) 13) < x16 then (pX12_votesAt_L145 q_51 q_66 v1_66 v2_66 v3_66 v4_66 x16 v1_66 ((m_66.2.2 9) v1_66.toNatClampNeg) false m_66) else (pX12_votesAt_L145 q_51 q_66 v1_66 v2_66 v3_66 v4_66 x16 v1_66 ((m_66.2.2 9) v1_66.toNatClampNeg) true m_66)) else (pX12_votesAt_L168 q_51 q_66 v1_66 v2_66 v3_66 v4_66 m_66))
noncomputable def pX12_votesAt_L66  (q_51 : Int32 → Int32 → Int32 → MS → MS) : Nat → Int32 → Int32 → Int32 → Int32 → MS → MS
  | 0 => fun _ _ _ _ m_66 => (m_66)
  | n + 1 => bX12_votesAt_L66  q_51 (pX12_votesAt_L66  q_51 n)
def kbX12_votesAt_L66  (Q_51 : Int32 → Int32 → Int32 → MS → Prop) (Q_66 : Int32 → Int32 → Int32 → Int32 → MS → Prop) (v1_66 : Int32) (v2_66 : Int32) (v3_66 : Int32) (v4_66 : Int32) (m_66 : MS) : Prop := if ((m_66.2.2 0) 2) ≤ v4_66 then (lt (v3_66 + 1) fun (x10 : Int32) => Q_51 v1_66 v2_66 x10 m_66) else ((kX12_arePair m_66 v3_66 v4_66 v2_66) ∧ (if (pX12_arePair m_66 v3_66 v4_66 v2_66) = true then ((kX12_of m_66 v3_66 5) ∧ ((kX12_of m_66 v4_66 5) ∧ ((vp_in v3_66 8) ∧ ((vp_in v4_66 8) ∧ (lt (pX12_apart ((pX12_of m_66 v3_66 5) - (pX12_of m_66 v4_66 5)) (((m_66.2.2 11) v3_66.toNatClampNeg) - ((m_66.2.2 11) v4_66.toNatClampNeg))) fun (x16 : Int32) => (vp_in v1_66 400) ∧ (if ((m_66.2.2 0) 13) < x16 then (kX12_votesAt_L145 Q_51 Q_66 v1_66 v2_66 v3_66 v4_66 x16 v1_66 ((m_66.2.2 9) v1_66.toNatClampNeg) false m_66) else (kX12_votesAt_L145 Q_51 Q_66 v1_66 v2_66 v3_66 v4_66 x16 v1_66 ((m_66.2.2 9) v1_66.toNatClampNeg) true m_66))))))) else (kX12_votesAt_L168 Q_51 Q_66 v1_66 v2_66 v3_66 v4_66 m_66)))
noncomputable def kX12_votesAt_L66  (Q_51 : Int32 → Int32 → Int32 → MS → Prop) : Nat → Int32 → Int32 → Int32 → Int32 → MS → Prop
  | 0 => fun _ _ _ _ _ => False
  | n + 1 => kbX12_votesAt_L66  Q_51 (kX12_votesAt_L66  Q_51 n)
noncomputable def bX12_votesAt_L51   (q_51 : Int32 → Int32 → Int32 → MS → MS) (v1_51 : Int32) (v2_51 : Int32) (v3_51 : Int32) (m_51 : MS) : MS := if ((m_51.2.2 0) 2) ≤ v3_51 then (m_51) else (lt (v3_51 + 1) fun (x8 : Int32) => pX12_votesAt_L66 q_51 fu v1_51 v2_51 v3_51 x8 m_51)
noncomputable def pX12_votesAt_L51   : Nat → Int32 → Int32 → Int32 → MS → MS
  | 0 => fun _ _ _ m_51 => (m_51)
  | n + 1 => bX12_votesAt_L51   (pX12_votesAt_L51   n)
def kbX12_votesAt_L51   (Q_51 : Int32 → Int32 → Int32 → MS → Prop) (v1_51 : Int32) (v2_51 : Int32) (v3_51 : Int32) (m_51 : MS) : Prop := if ((m_51.2.2 0) 2) ≤ v3_51 then (True) else (lt (v3_51 + 1) fun (x8 : Int32) => kX12_votesAt_L66 Q_51 fu v1_51 v2_51 v3_51 x8 m_51)
noncomputable def kX12_votesAt_L51   : Nat → Int32 → Int32 → Int32 → MS → Prop
  | 0 => fun _ _ _ _ => False
  | n + 1 => kbX12_votesAt_L51   (kX12_votesAt_L51   n)
noncomputable def bX12_votesAt_L2   (q_2 : Int32 → Int32 → Int32 → MS → MS) (v1_2 : Int32) (v2_2 : Int32) (v3_2 : Int32) (m_2 : MS) : MS := if ((m_2.2.2 0) 2) ≤ v3_2 then (lt (msa m_2 9 (upd (m_2.2.2 9) v1_2.toNatClampNeg 0)) fun (m_3 : MS) => lt (msa m_3 10 (upd (m_3.2.2 10) v1_2.toNatClampNeg 0)) fun (m_5 : MS) => lt (msi m_5 6 0) fun (m_6 : MS) => pX12_votesAt_L51 fu v1_2 v2_2 0 m_6) else (lt (msa m_2 11 (upd (m_2.2.2 11) v3_2.toNatClampNeg (pX12_timeFrom m_2 v1_2 v3_2))) fun (m_29 : MS) => lt (v3_2 + 1) fun (x30 : Int32) => q_2 v1_2 v2_2 x30 m_29)
noncomputable def pX12_votesAt_L2   : Nat → Int32 → Int32 → Int32 → MS → MS
  | 0 => fun _ _ _ m_2 => (m_2)
  | n + 1 => bX12_votesAt_L2   (pX12_votesAt_L2   n)
def kbX12_votesAt_L2   (Q_2 : Int32 → Int32 → Int32 → MS → Prop) (v1_2 : Int32) (v2_2 : Int32) (v3_2 : Int32) (m_2 : MS) : Prop := if ((m_2.2.2 0) 2) ≤ v3_2 then ((vp_in v1_2 400) ∧ (lt (msa m_2 9 (upd (m_2.2.2 9) v1_2.toNatClampNeg 0)) fun (m_3 : MS) => (vp_in v1_2 400) ∧ (lt (msa m_3 10 (upd (m_3.2.2 10) v1_2.toNatClampNeg 0)) fun (m_5 : MS) => lt (msi m_5 6 0) fun (m_6 : MS) => kX12_votesAt_L51 fu v1_2 v2_2 0 m_6))) else ((kX12_timeFrom m_2 v1_2 v3_2) ∧ ((vp_in v3_2 8) ∧ (lt (msa m_2 11 (upd (m_2.2.2 11) v3_2.toNatClampNeg (pX12_timeFrom m_2 v1_2 v3_2))) fun (m_29 : MS) => lt (v3_2 + 1) fun (x30 : Int32) => Q_2 v1_2 v2_2 x30 m_29)))
noncomputable def kX12_votesAt_L2   : Nat → Int32 → Int32 → Int32 → MS → Prop
  | 0 => fun _ _ _ _ => False
  | n + 1 => kbX12_votesAt_L2   (kX12_votesAt_L2   n)
noncomputable def pX12_votesAt (m : MS) (a1 : Int32) (a2 : Int32) : MS := pX12_votesAt_L2 fu a1 a2 0 m
def kX12_votesAt (m : MS) (a1 : Int32) (a2 : Int32) : Prop := kX12_votesAt_L2 fu a1 a2 0 m
abbrev rX12_votesAt : Room := { frames := 3, cells := 0, slots := 0, locals := 70 }
set_option maxHeartbeats 4000000 in
set_option maxRecDepth 100000 in
theorem mX12_votesAt (l : Launch) (dC : Nat → ClassId) (dI : Nat → Nat → Nat) (cI cB cO cL : ClassId) (q : Nat → Nat) (m : MS) (a1 : Int32) (a2 : Int32) (hI : gD (fun _ => True) (mAd q)) (hok : kX12_votesAt m a1 a2) : Met l yX12_votesAt wsX12_votesAt rX12_votesAt (gP (dC, dI) (tYS cI cB cO cL) (mw q cI m) [.ref (q 0), .int a1, .int a2]) (gQv (dC, dI) (fun m9 => mw q cI m9) (wA (mw q cI m)) (pX12_votesAt m a1 a2)) 0 0 (wA (mw q cI m)) := by
  refine gMet (cc := cX12_votesAt) (maxL := 6) (ret := none) [(0, .ref (q 0)), (1, .int a1), (2, .int a2)] (by decide) rfl rfl rfl ?_
  intro p e s mi below meth c C0 hK hP ls hl
  obtain ⟨hx, hb, hr, hml, hown, hts, hlocks⟩ := id C0
  have hown : s.vm.findClass RX12 = some mi.cls := hown
  have hS : va_S (wA (mw q cI m)) s.heap s.heap [] := va_S.rf
  have hD : gD (wA (mw q cI m)) (mAd q) := gD_wA (ws := mw q cI m) hI
  have hP : va_P (dC, dI) vwCl (mw q cI m) s.heap := hP
  obtain ⟨F, hF⟩ : ∃ F, F = pX12_votesAt m a1 a2 := ⟨_, rfl⟩
  have hf := hF
  have hin12 : ∀ w ∈ u_ws RX12 TX12 23, w ∈ wsX12_votesAt := by decide +kernel
  have fl7 := hts (.fieldLink RX12 7 "ClickBenchModel" "s" "[I") (by decide +kernel)
  have fl37 := hts (.fieldLink RX12 37 "ClickBenchModel" "voteMany" "[I") (by decide +kernel)
  have fl40 := hts (.fieldLink RX12 40 "ClickBenchModel" "errors" "[I") (by decide +kernel)
  have fl196 := hts (.fieldLink RX12 196 "ClickBenchModel" "pairMany" "I") (by decide +kernel)
  have fl43 := hts (.fieldLink RX12 43 "ClickBenchModel" "times" "[I") (by decide +kernel)
  have J_51 : ∀ (n_51 : Nat) (v1_51 : Int32) (v2_51 : Int32) (v3_51 : Int32) (m_51 : MS) (H : Heap) (locs : List Loc), va_P (dC, dI) vwCl (mw q cI m_51) H → va_S (wA (mw q cI m)) s.heap H locs → ∀ ls : Array Slot, lv_has ls 6 [(0, .ref (q 0)), (1, .int v1_51), (2, .int v2_51), (3, .int v3_51)] → F = pX12_votesAt_L51 n_51 v1_51 v2_51 v3_51 m_51 → kX12_votesAt_L51 n_51 v1_51 v2_51 v3_51 m_51 → W p l e rX12_votesAt s mi ([.ref (q 0), .int a1, .int a2] : List Value).toArray below meth c H locs 0 0 (MQ below (gQv (dC, dI) (fun m9 => mw q cI m9) (wA (mw q cI m)) (pX12_votesAt m a1 a2)) ([.ref (q 0), .int a1, .int a2] : List Value).toArray s 0 0 (wA (mw q cI m))) (F0 mi 51 ls []) := by
    intro n_51
    induction n_51 with
    | zero =>
      intro v1_51 v2_51 v3_51 m_51 H locs hP hS ls hl hf hok
      exact absurd hok (fun h => h)
    | succ n_51 ih_51 =>
      have J_66 : ∀ (n_66 : Nat) (v1_66 : Int32) (v2_66 : Int32) (v3_66 : Int32) (v4_66 : Int32) (m_66 : MS) (H : Heap) (locs : List Loc), va_P (dC, dI) vwCl (mw q cI m_66) H → va_S (wA (mw q cI m)) s.heap H locs → ∀ ls : Array Slot, lv_has ls 6 [(0, .ref (q 0)), (1, .int v1_66), (2, .int v2_66), (3, .int v3_66), (4, .int v4_66)] → F = pX12_votesAt_L66 (pX12_votesAt_L51 n_51) n_66 v1_66 v2_66 v3_66 v4_66 m_66 → kX12_votesAt_L66 (kX12_votesAt_L51 n_51) n_66 v1_66 v2_66 v3_66 v4_66 m_66 → W p l e rX12_votesAt s mi ([.ref (q 0), .int a1, .int a2] : List Value).toArray below meth c H locs 0 0 (MQ below (gQv (dC, dI) (fun m9 => mw q cI m9) (wA (mw q cI m)) (pX12_votesAt m a1 a2)) ([.ref (q 0), .int a1, .int a2] : List Value).toArray s 0 0 (wA (mw q cI m))) (F0 mi 66 ls []) := by
        intro n_66
        induction n_66 with
        | zero =>
          intro v1_66 v2_66 v3_66 v4_66 m_66 H locs hP hS ls hl hf hok
          exact absurd hok (fun h => h)
        | succ n_66 ih_66 =>
          have J_168 : ∀ (v1_168 : Int32) (v2_168 : Int32) (v3_168 : Int32) (v4_168 : Int32) (m_168 : MS) (H : Heap) (locs : List Loc), va_P (dC, dI) vwCl (mw q cI m_168) H → va_S (wA (mw q cI m)) s.heap H locs → ∀ ls : Array Slot, lv_has ls 6 [(0, .ref (q 0)), (1, .int v1_168), (2, .int v2_168), (3, .int v3_168), (4, .int v4_168)] → F = pX12_votesAt_L168 (pX12_votesAt_L51 n_51) (pX12_votesAt_L66 (pX12_votesAt_L51 n_51) n_66) v1_168 v2_168 v3_168 v4_168 m_168 → kX12_votesAt_L168 (kX12_votesAt_L51 n_51) (kX12_votesAt_L66 (kX12_votesAt_L51 n_51) n_66) v1_168 v2_168 v3_168 v4_168 m_168 → W p l e rX12_votesAt s mi ([.ref (q 0), .int a1, .int a2] : List Value).toArray below meth c H locs 0 0 (MQ below (gQv (dC, dI) (fun m9 => mw q cI m9) (wA (mw q cI m)) (pX12_votesAt m a1 a2)) ([.ref (q 0), .int a1, .int a2] : List Value).toArray s 0 0 (wA (mw q cI m))) (F0 mi 168 ls []) := by
            intro v1_168 v2_168 v3_168 v4_168 m_168 H locs hP hS ls hl hf hok
            obtain ⟨x13, ex13⟩ : ∃ y : Int32, y = v4_168 + 1 := ⟨_, rfl⟩
            refine lv_iinc (v := x13) (lv' := [(4, .int x13), (0, .ref (q 0)), (1, .int v1_168), (2, .int v2_168), (3, .int v3_168)]) hx hb dX12_votesAt_168 hl (k := 4) rfl (by rw [ex13]; rfl) (by decide) rfl (fun ls hl => ?_)
            have hf := lt_eq ex13 hf
            have hok := lt_ok ex13 hok
            refine lv_goto (tgt := 66) hx hb dX12_votesAt_171 (by decide) ?_
            exact ih_66 v1_168 v2_168 v3_168 x13 m_168 _ _ hP hS _ (lv_sub hl [1, 2, 3, 4, 0] rfl) hf hok
          have J_145 : ∀ (v1_145 : Int32) (v2_145 : Int32) (v3_145 : Int32) (v4_145 : Int32) (v5_145 : Int32) (t1_145 : Int32) (t2_145 : Int32) (t3_145 : Bool) (m_145 : MS) (H : Heap) (locs : List Loc), va_P (dC, dI) vwCl (mw q cI m_145) H → va_S (wA (mw q cI m)) s.heap H locs → ∀ ls : Array Slot, lv_has ls 6 [(0, .ref (q 0)), (1, .int v1_145), (2, .int v2_145), (3, .int v3_145), (4, .int v4_145), (5, .int v5_145)] → F = pX12_votesAt_L145 (pX12_votesAt_L51 n_51) (pX12_votesAt_L66 (pX12_votesAt_L51 n_51) n_66) v1_145 v2_145 v3_145 v4_145 v5_145 t1_145 t2_145 t3_145 m_145 → kX12_votesAt_L145 (kX12_votesAt_L51 n_51) (kX12_votesAt_L66 (kX12_votesAt_L51 n_51) n_66) v1_145 v2_145 v3_145 v4_145 v5_145 t1_145 t2_145 t3_145 m_145 → W p l e rX12_votesAt s mi ([.ref (q 0), .int a1, .int a2] : List Value).toArray below meth c H locs 0 0 (MQ below (gQv (dC, dI) (fun m9 => mw q cI m9) (wA (mw q cI m)) (pX12_votesAt m a1 a2)) ([.ref (q 0), .int a1, .int a2] : List Value).toArray s 0 0 (wA (mw q cI m))) (F0 mi 145 ls [.int (bz t3_145), .int t2_145, .int t1_145, .ref (q 10)]) := by
            intro v1_145 v2_145 v3_145 v4_145 v5_145 t1_145 t2_145 t3_145 m_145 H locs hP hS ls hl hf hok
            refine lv_iadd hx hb dX12_votesAt_145 ?_
            obtain ⟨h18, hok⟩ := hok
            refine va_iast (D := (dC, dI)) (tys := (tYS cI cB cO cL)) hx hb hK hP (gD_va hD rfl) hS 10 0 rfl rfl h18 dX12_votesAt_146 (fun H locs hP _ hS => ?_)
            obtain ⟨m_19, em_19⟩ : ∃ z9 : MS, z9 = msa m_145 9 (upd (m_145.2.2 9) t1_145.toNatClampNeg (t2_145 + (bz t3_145))) := ⟨_, rfl⟩
            have hP : va_P (dC, dI) vwCl (mw q cI m_19) H := by rw [em_19]; exact hP
            have hf := lt_eq em_19 hf
            have hok := lt_ok em_19 hok
            refine lv_aload_n hx hb dX12_votesAt_147 rfl (lv_at hl 0 rfl) ?_
            refine va_get (D := (dC, dI)) (ci := 9) (v := .ref (q 11)) (C := RX12) (T := TX12) (N := 23) hx hb hts hin12 hown hK hP 0 rfl rfl 16 (by decide) fl40 (fun _ h9 => h9) rfl dX12_votesAt_148 ?_
            refine lv_iload_n hx hb dX12_votesAt_151 rfl (lv_at hl 1 rfl) ?_
            refine lv_dup2_11 hx hb dX12_votesAt_152 rfl rfl ?_
            obtain ⟨h23, hok⟩ := hok
            refine va_iald (D := (dC, dI)) (tys := (tYS cI cB cO cL)) hx hb hK hP 11 0 rfl rfl h23 dX12_votesAt_153 ?_
            refine lv_iload hx hb dX12_votesAt_154 (lv_at hl 5 rfl) ?_
            refine lv_iadd hx hb dX12_votesAt_156 ?_
            obtain ⟨h20, hok⟩ := hok
            refine va_iast (D := (dC, dI)) (tys := (tYS cI cB cO cL)) hx hb hK hP (gD_va hD rfl) hS 11 0 rfl rfl h20 dX12_votesAt_157 (fun H locs hP _ hS => ?_)
            obtain ⟨m_21, em_21⟩ : ∃ z9 : MS, z9 = msa m_19 10 (upd (m_19.2.2 10) v1_145.toNatClampNeg (((m_19.2.2 10) v1_145.toNatClampNeg) + v5_145)) := ⟨_, rfl⟩
            have hP : va_P (dC, dI) vwCl (mw q cI m_21) H := by rw [em_21]; exact hP
            have hf := lt_eq em_21 hf
            have hok := lt_ok em_21 hok
            refine lv_aload_n hx hb dX12_votesAt_158 rfl (lv_at hl 0 rfl) ?_
            refine lv_dup hx hb dX12_votesAt_159 rfl ?_
            refine va_get (D := (dC, dI)) (ci := 9) (v := .int (m_21.1 6)) (C := RX12) (T := TX12) (N := 23) hx hb hts hin12 hown hK hP 0 rfl rfl 18 (by decide) fl196 (fun _ h9 => h9) rfl dX12_votesAt_160 ?_
            refine lv_iconst (v := 1) hx hb dX12_votesAt_163 (by decide) ?_
            refine lv_iadd hx hb dX12_votesAt_164 ?_
            refine va_put (D := (dC, dI)) (ci := 9) (v := .int ((m_21.1 6) + 1)) (ty := .int) (C := RX12) (T := TX12) (N := 23) hx hb hts hin12 tyX12 tyX12_ok nmX12 hown hK hP (gD_va hD rfl) hS 0 rfl rfl 18 (by decide) fl196 (fun _ h9 => h9) rfl (by decide +kernel) rfl rfl (Nat.le_of_ble_eq_true rfl) dX12_votesAt_165 (fun H locs hP _ hS => ?_)
            obtain ⟨m_22, em_22⟩ : ∃ z9 : MS, z9 = msi m_21 6 ((m_21.1 6) + 1) := ⟨_, rfl⟩
            have hP : va_P (dC, dI) vwCl (mw q cI m_22) H := by rw [em_22]; exact hP
            have hf := lt_eq em_22 hf
            have hok := lt_ok em_22 hok
            exact J_168 v1_145 v2_145 v3_145 v4_145 m_22 _ _ hP hS _ (lv_sub hl [0, 1, 2, 3, 4] rfl) hf hok
          intro v1_66 v2_66 v3_66 v4_66 m_66 H locs hP hS ls hl hf hok
          have hf : F = bX12_votesAt_L66 (pX12_votesAt_L51 n_51) (pX12_votesAt_L66 (pX12_votesAt_L51 n_51) n_66) v1_66 v2_66 v3_66 v4_66 m_66 := hf
          have hok : kbX12_votesAt_L66 (kX12_votesAt_L51 n_51) (kX12_votesAt_L66 (kX12_votesAt_L51 n_51) n_66) v1_66 v2_66 v3_66 v4_66 m_66 := hok
          refine lv_iload hx hb dX12_votesAt_66 (lv_at hl 4 rfl) ?_
          refine lv_aload_n hx hb dX12_votesAt_68 rfl (lv_at hl 0 rfl) ?_
          refine va_get (D := (dC, dI)) (ci := 9) (v := .ref (q 1)) (C := RX12) (T := TX12) (N := 23) hx hb hts hin12 hown hK hP 0 rfl rfl 0 (by decide) fl7 (fun _ h9 => h9) rfl dX12_votesAt_69 ?_
          refine lv_iconst (v := 2) hx hb dX12_votesAt_72 (by decide) ?_
          refine g_ialdK (D := (dC, dI)) (tys := (tYS cI cB cO cL)) (k := 2) hx hb hK hP 1 0 rfl rfl (by decide) (by decide) (by decide) dX12_votesAt_73 ?_
          refine lv_icmp_ge (tgt := 174) hx hb dX12_votesAt_74 (by decide) (fun c9 => ?_) (fun c9 => ?_)
          · have hf := it_eq c9 hf
            have hok := it_ok c9 hok
            obtain ⟨x10, ex10⟩ : ∃ y : Int32, y = v3_66 + 1 := ⟨_, rfl⟩
            refine lv_iinc (v := x10) (lv' := [(3, .int x10), (0, .ref (q 0)), (1, .int v1_66), (2, .int v2_66), (4, .int v4_66)]) hx hb dX12_votesAt_174 hl (k := 3) rfl (by rw [ex10]; rfl) (by decide) rfl (fun ls hl => ?_)
            have hf := lt_eq ex10 hf
            have hok := lt_ok ex10 hok
            refine lv_goto (tgt := 51) hx hb dX12_votesAt_177 (by decide) ?_
            exact ih_51 v1_66 v2_66 x10 m_66 _ _ hP hS _ (lv_sub hl [1, 2, 3, 0] rfl) hf hok
          · have hf := ie_eq c9 hf
            have hok := ie_ok c9 hok
            refine lv_aload_n hx hb dX12_votesAt_77 rfl (lv_at hl 0 rfl) ?_
            refine lv_iload_n hx hb dX12_votesAt_78 rfl (lv_at hl 3 rfl) ?_
            refine lv_iload hx hb dX12_votesAt_79 (lv_at hl 4 rfl) ?_
            refine lv_iload_n hx hb dX12_votesAt_81 rfl (lv_at hl 2 rfl) ?_
            obtain ⟨h11, hok⟩ := hok
            refine gro_i (va_runV (As := [.int v3_66, .int v4_66, .int v2_66]) (rest := []) ⟨hx, hb, hml, hown, hts⟩ (mX12_arePair l dC dI cI cB cO cL q m_66 v3_66 v4_66 v2_66  h11) (cwV 3 hts gX12_votesAt_X12_arePair rfl rfl rfl (by decide +kernel) ⟨Nat.le_of_ble_eq_true rfl, Nat.le_of_ble_eq_true rfl⟩) ⟨gP_blind, va_recv hK hP (ci := 9) (q0 := 0) rfl rfl, gP_ok hP hK⟩ rfl rfl hl.1 rfl (lv_room (Nat.le_of_ble_eq_true rfl)) dX12_votesAt_82 ⟨Nat.zero_le _, Nat.zero_le _⟩) ?_
            refine lv_if_eq (tgt := 168) hx hb dX12_votesAt_85 (by decide) (fun c12 => ?_) (fun c12 => ?_)
            · have c12 := bz_f c12
              have hf := ie_eq c12 hf
              have hok := ie_ok c12 hok
              exact J_168 v1_66 v2_66 v3_66 v4_66 m_66 _ _ hP hS _ (lv_sub hl [0, 1, 2, 3, 4] rfl) hf hok
            · have c12 := bz_t c12
              have hf := it_eq c12 hf
              have hok := it_ok c12 hok
              refine lv_aload_n hx hb dX12_votesAt_88 rfl (lv_at hl 0 rfl) ?_
              refine lv_iload_n hx hb dX12_votesAt_89 rfl (lv_at hl 3 rfl) ?_
              refine lv_iconst (v := 5) hx hb dX12_votesAt_90 (by decide) ?_
              obtain ⟨h14, hok⟩ := hok
              refine gro_i (va_runV (As := [.int v3_66, .int 5]) (rest := []) ⟨hx, hb, hml, hown, hts⟩ (mX12_of l dC dI cI cB cO cL q m_66 v3_66 5  h14) (cwV 2 hts gX12_votesAt_X12_of rfl rfl rfl (by decide +kernel) ⟨Nat.le_of_ble_eq_true rfl, Nat.le_of_ble_eq_true rfl⟩) ⟨gP_blind, va_recv hK hP (ci := 9) (q0 := 0) rfl rfl, gP_ok hP hK⟩ rfl rfl hl.1 rfl (lv_room (Nat.le_of_ble_eq_true rfl)) dX12_votesAt_91 ⟨Nat.zero_le _, Nat.zero_le _⟩) ?_
              refine lv_aload_n hx hb dX12_votesAt_94 rfl (lv_at hl 0 rfl) ?_
              refine lv_iload hx hb dX12_votesAt_95 (lv_at hl 4 rfl) ?_
              refine lv_iconst (v := 5) hx hb dX12_votesAt_97 (by decide) ?_
              obtain ⟨h15, hok⟩ := hok
              refine gro_i (va_runV (As := [.int v4_66, .int 5]) (rest := [.int (pX12_of m_66 v3_66 5)]) ⟨hx, hb, hml, hown, hts⟩ (mX12_of l dC dI cI cB cO cL q m_66 v4_66 5  h15) (cwV 2 hts gX12_votesAt_X12_of rfl rfl rfl (by decide +kernel) ⟨Nat.le_of_ble_eq_true rfl, Nat.le_of_ble_eq_true rfl⟩) ⟨gP_blind, va_recv hK hP (ci := 9) (q0 := 0) rfl rfl, gP_ok hP hK⟩ rfl rfl hl.1 rfl (lv_room (Nat.le_of_ble_eq_true rfl)) dX12_votesAt_98 ⟨Nat.zero_le _, Nat.zero_le _⟩) ?_
              refine lv_isub hx hb dX12_votesAt_101 ?_
              refine lv_aload_n hx hb dX12_votesAt_102 rfl (lv_at hl 0 rfl) ?_
              refine va_get (D := (dC, dI)) (ci := 9) (v := .ref (q 12)) (C := RX12) (T := TX12) (N := 23) hx hb hts hin12 hown hK hP 0 rfl rfl 17 (by decide) fl43 (fun _ h9 => h9) rfl dX12_votesAt_103 ?_
              refine lv_iload_n hx hb dX12_votesAt_106 rfl (lv_at hl 3 rfl) ?_
              obtain ⟨h26, hok⟩ := hok
              refine va_iald (D := (dC, dI)) (tys := (tYS cI cB cO cL)) hx hb hK hP 12 0 rfl rfl h26 dX12_votesAt_107 ?_
              refine lv_aload_n hx hb dX12_votesAt_108 rfl (lv_at hl 0 rfl) ?_
              refine va_get (D := (dC, dI)) (ci := 9) (v := .ref (q 12)) (C := RX12) (T := TX12) (N := 23) hx hb hts hin12 hown hK hP 0 rfl rfl 17 (by decide) fl43 (fun _ h9 => h9) rfl dX12_votesAt_109 ?_
              refine lv_iload hx hb dX12_votesAt_112 (lv_at hl 4 rfl) ?_
              obtain ⟨h25, hok⟩ := hok
              refine va_iald (D := (dC, dI)) (tys := (tYS cI cB cO cL)) hx hb hK hP 12 0 rfl rfl h25 dX12_votesAt_114 ?_
              refine lv_isub hx hb dX12_votesAt_115 ?_
              refine gro_i (va_runS (As := [.int ((pX12_of m_66 v3_66 5) - (pX12_of m_66 v4_66 5)), .int (((m_66.2.2 11) v3_66.toNatClampNeg) - ((m_66.2.2 11) v4_66.toNatClampNeg))]) (rest := []) ⟨hx, hb, hml, hown, hts⟩ (mX12_apart l dC dI cI cB cO cL  ((pX12_of m_66 v3_66 5) - (pX12_of m_66 v4_66 5)) (((m_66.2.2 11) v3_66.toNatClampNeg) - ((m_66.2.2 11) v4_66.toNatClampNeg))  ) (va_cwS 2 hts gX12_votesAt_X12_apart rfl rfl rfl (by decide +kernel) ⟨Nat.le_of_ble_eq_true rfl, Nat.le_of_ble_eq_true rfl⟩) ⟨gP_blind, gP_ok va_P_nil hK⟩ rfl rfl hl.1 rfl (lv_room (Nat.le_of_ble_eq_true rfl)) dX12_votesAt_116 ⟨Nat.zero_le _, Nat.zero_le _⟩) ?_
              refine lv_topi (fun x16 ex16 => ?_)
              have hf := lt_eq ex16 hf
              have hok := lt_ok ex16 hok
              refine lv_istore (lv' := [(5, .int x16), (0, .ref (q 0)), (1, .int v1_66), (2, .int v2_66), (3, .int v3_66), (4, .int v4_66)]) hx hb dX12_votesAt_119 hl (by decide) rfl (fun ls hl => ?_)
              refine lv_aload_n hx hb dX12_votesAt_121 rfl (lv_at hl 1 rfl) ?_
              refine va_get (D := (dC, dI)) (ci := 9) (v := .ref (q 10)) (C := RX12) (T := TX12) (N := 23) hx hb hts hin12 hown hK hP 0 rfl rfl 15 (by decide) fl37 (fun _ h9 => h9) rfl dX12_votesAt_122 ?_
              refine lv_iload_n hx hb dX12_votesAt_125 rfl (lv_at hl 2 rfl) ?_
              refine lv_dup2_11 hx hb dX12_votesAt_126 rfl rfl ?_
              obtain ⟨h24, hok⟩ := hok
              refine va_iald (D := (dC, dI)) (tys := (tYS cI cB cO cL)) hx hb hK hP 10 0 rfl rfl h24 dX12_votesAt_127 ?_
              refine lv_iload hx hb dX12_votesAt_128 (lv_at hl 0 rfl) ?_
              refine lv_aload_n hx hb dX12_votesAt_130 rfl (lv_at hl 1 rfl) ?_
              refine va_get (D := (dC, dI)) (ci := 9) (v := .ref (q 1)) (C := RX12) (T := TX12) (N := 23) hx hb hts hin12 hown hK hP 0 rfl rfl 0 (by decide) fl7 (fun _ h9 => h9) rfl dX12_votesAt_131 ?_
              refine lv_bipush (v := 13) hx hb dX12_votesAt_134 (by decide) ?_
              refine g_ialdK (D := (dC, dI)) (tys := (tYS cI cB cO cL)) (k := 13) hx hb hK hP 1 0 rfl rfl (by decide) (by decide) (by decide) dX12_votesAt_136 ?_
              refine lv_icmp_gt (tgt := 144) hx hb dX12_votesAt_137 (by decide) (fun c17 => ?_) (fun c17 => ?_)
              · have hf := it_eq c17 hf
                have hok := it_ok c17 hok
                refine lv_iconst (v := 0) hx hb dX12_votesAt_144 (by decide) ?_
                exact J_145 v1_66 v2_66 v3_66 v4_66 x16 v1_66 ((m_66.2.2 9) v1_66.toNatClampNeg) false m_66 _ _ hP hS _ (lv_sub hl [1, 2, 3, 4, 5, 0] rfl) hf hok
              · have hf := ie_eq c17 hf
                have hok := ie_ok c17 hok
                refine lv_iconst (v := 1) hx hb dX12_votesAt_140 (by decide) ?_
                refine lv_goto (tgt := 145) hx hb dX12_votesAt_141 (by decide) ?_
                exact J_145 v1_66 v2_66 v3_66 v4_66 x16 v1_66 ((m_66.2.2 9) v1_66.toNatClampNeg) true m_66 _ _ hP hS _ (lv_sub hl [1, 2, 3, 4, 5, 0] rfl) hf hok
      intro v1_51 v2_51 v3_51 m_51 H locs hP hS ls hl hf hok
      have hf : F = bX12_votesAt_L51 (pX12_votesAt_L51 n_51) v1_51 v2_51 v3_51 m_51 := hf
      have hok : kbX12_votesAt_L51 (kX12_votesAt_L51 n_51) v1_51 v2_51 v3_51 m_51 := hok
      refine lv_iload_n hx hb dX12_votesAt_51 rfl (lv_at hl 3 rfl) ?_
      refine lv_aload_n hx hb dX12_votesAt_52 rfl (lv_at hl 0 rfl) ?_
      refine va_get (D := (dC, dI)) (ci := 9) (v := .ref (q 1)) (C := RX12) (T := TX12) (N := 23) hx hb hts hin12 hown hK hP 0 rfl rfl 0 (by decide) fl7 (fun _ h9 => h9) rfl dX12_votesAt_53 ?_
      refine lv_iconst (v := 2) hx hb dX12_votesAt_56 (by decide) ?_
      refine g_ialdK (D := (dC, dI)) (tys := (tYS cI cB cO cL)) (k := 2) hx hb hK hP 1 0 rfl rfl (by decide) (by decide) (by decide) dX12_votesAt_57 ?_
      refine lv_icmp_ge (tgt := 180) hx hb dX12_votesAt_58 (by decide) (fun c7 => ?_) (fun c7 => ?_)
      · have hf := it_eq c7 hf
        exact e_mv C0 (hf.symm.trans hF) hP hS dX12_votesAt_180
      · have hf := ie_eq c7 hf
        have hok := ie_ok c7 hok
        refine lv_iload_n hx hb dX12_votesAt_61 rfl (lv_at hl 3 rfl) ?_
        refine lv_iconst (v := 1) hx hb dX12_votesAt_62 (by decide) ?_
        refine lv_iadd hx hb dX12_votesAt_63 ?_
        refine lv_topi (fun x8 ex8 => ?_)
        have hf := lt_eq ex8 hf
        have hok := lt_ok ex8 hok
        refine lv_istore (lv' := [(4, .int x8), (0, .ref (q 0)), (1, .int v1_51), (2, .int v2_51), (3, .int v3_51)]) hx hb dX12_votesAt_64 hl (by decide) rfl (fun ls hl => ?_)
        exact J_66 fu v1_51 v2_51 v3_51 x8 m_51 _ _ hP hS _ (lv_sub hl [1, 2, 3, 4, 0] rfl) hf hok
  have J_2 : ∀ (n_2 : Nat) (v1_2 : Int32) (v2_2 : Int32) (v3_2 : Int32) (m_2 : MS) (H : Heap) (locs : List Loc), va_P (dC, dI) vwCl (mw q cI m_2) H → va_S (wA (mw q cI m)) s.heap H locs → ∀ ls : Array Slot, lv_has ls 6 [(0, .ref (q 0)), (1, .int v1_2), (2, .int v2_2), (3, .int v3_2)] → F = pX12_votesAt_L2 n_2 v1_2 v2_2 v3_2 m_2 → kX12_votesAt_L2 n_2 v1_2 v2_2 v3_2 m_2 → W p l e rX12_votesAt s mi ([.ref (q 0), .int a1, .int a2] : List Value).toArray below meth c H locs 0 0 (MQ below (gQv (dC, dI) (fun m9 => mw q cI m9) (wA (mw q cI m)) (pX12_votesAt m a1 a2)) ([.ref (q 0), .int a1, .int a2] : List Value).toArray s 0 0 (wA (mw q cI m))) (F0 mi 2 ls []) := by
    intro n_2
    induction n_2 with
    | zero =>
      intro v1_2 v2_2 v3_2 m_2 H locs hP hS ls hl hf hok
      exact absurd hok (fun h => h)
    | succ n_2 ih_2 =>
      intro v1_2 v2_2 v3_2 m_2 H locs hP hS ls hl hf hok
      have hf : F = bX12_votesAt_L2 (pX12_votesAt_L2 n_2) v1_2 v2_2 v3_2 m_2 := hf
      have hok : kbX12_votesAt_L2 (kX12_votesAt_L2 n_2) v1_2 v2_2 v3_2 m_2 := hok
      refine lv_iload_n hx hb dX12_votesAt_2 rfl (lv_at hl 3 rfl) ?_
      refine lv_aload_n hx hb dX12_votesAt_3 rfl (lv_at hl 0 rfl) ?_
      refine va_get (D := (dC, dI)) (ci := 9) (v := .ref (q 1)) (C := RX12) (T := TX12) (N := 23) hx hb hts hin12 hown hK hP 0 rfl rfl 0 (by decide) fl7 (fun _ h9 => h9) rfl dX12_votesAt_4 ?_
      refine lv_iconst (v := 2) hx hb dX12_votesAt_7 (by decide) ?_
      refine g_ialdK (D := (dC, dI)) (tys := (tYS cI cB cO cL)) (k := 2) hx hb hK hP 1 0 rfl rfl (by decide) (by decide) (by decide) dX12_votesAt_8 ?_
      refine lv_icmp_ge (tgt := 30) hx hb dX12_votesAt_9 (by decide) (fun c1 => ?_) (fun c1 => ?_)
      · have hf := it_eq c1 hf
        have hok := it_ok c1 hok
        refine lv_aload_n hx hb dX12_votesAt_30 rfl (lv_at hl 0 rfl) ?_
        refine va_get (D := (dC, dI)) (ci := 9) (v := .ref (q 10)) (C := RX12) (T := TX12) (N := 23) hx hb hts hin12 hown hK hP 0 rfl rfl 15 (by decide) fl37 (fun _ h9 => h9) rfl dX12_votesAt_31 ?_
        refine lv_iload_n hx hb dX12_votesAt_34 rfl (lv_at hl 1 rfl) ?_
        refine lv_iconst (v := 0) hx hb dX12_votesAt_35 (by decide) ?_
        obtain ⟨h2, hok⟩ := hok
        refine va_iast (D := (dC, dI)) (tys := (tYS cI cB cO cL)) hx hb hK hP (gD_va hD rfl) hS 10 0 rfl rfl h2 dX12_votesAt_36 (fun H locs hP _ hS => ?_)
        obtain ⟨m_3, em_3⟩ : ∃ z9 : MS, z9 = msa m_2 9 (upd (m_2.2.2 9) v1_2.toNatClampNeg 0) := ⟨_, rfl⟩
        have hP : va_P (dC, dI) vwCl (mw q cI m_3) H := by rw [em_3]; exact hP
        have hf := lt_eq em_3 hf
        have hok := lt_ok em_3 hok
        refine lv_aload_n hx hb dX12_votesAt_37 rfl (lv_at hl 0 rfl) ?_
        refine va_get (D := (dC, dI)) (ci := 9) (v := .ref (q 11)) (C := RX12) (T := TX12) (N := 23) hx hb hts hin12 hown hK hP 0 rfl rfl 16 (by decide) fl40 (fun _ h9 => h9) rfl dX12_votesAt_38 ?_
        refine lv_iload_n hx hb dX12_votesAt_41 rfl (lv_at hl 1 rfl) ?_
        refine lv_iconst (v := 0) hx hb dX12_votesAt_42 (by decide) ?_
        obtain ⟨h4, hok⟩ := hok
        refine va_iast (D := (dC, dI)) (tys := (tYS cI cB cO cL)) hx hb hK hP (gD_va hD rfl) hS 11 0 rfl rfl h4 dX12_votesAt_43 (fun H locs hP _ hS => ?_)
        obtain ⟨m_5, em_5⟩ : ∃ z9 : MS, z9 = msa m_3 10 (upd (m_3.2.2 10) v1_2.toNatClampNeg 0) := ⟨_, rfl⟩
        have hP : va_P (dC, dI) vwCl (mw q cI m_5) H := by rw [em_5]; exact hP
        have hf := lt_eq em_5 hf
        have hok := lt_ok em_5 hok
        refine lv_aload_n hx hb dX12_votesAt_44 rfl (lv_at hl 0 rfl) ?_
        refine lv_iconst (v := 0) hx hb dX12_votesAt_45 (by decide) ?_
        refine va_put (D := (dC, dI)) (ci := 9) (v := .int 0) (ty := .int) (C := RX12) (T := TX12) (N := 23) hx hb hts hin12 tyX12 tyX12_ok nmX12 hown hK hP (gD_va hD rfl) hS 0 rfl rfl 18 (by decide) fl196 (fun _ h9 => h9) rfl (by decide +kernel) rfl rfl (Nat.le_of_ble_eq_true rfl) dX12_votesAt_46 (fun H locs hP _ hS => ?_)
        obtain ⟨m_6, em_6⟩ : ∃ z9 : MS, z9 = msi m_5 6 0 := ⟨_, rfl⟩
        have hP : va_P (dC, dI) vwCl (mw q cI m_6) H := by rw [em_6]; exact hP
        have hf := lt_eq em_6 hf
        have hok := lt_ok em_6 hok
        refine lv_iconst (v := 0) hx hb dX12_votesAt_49 (by decide) ?_
        refine lv_istore_n (lv' := [(3, .int 0), (0, .ref (q 0)), (1, .int v1_2), (2, .int v2_2)]) hx hb dX12_votesAt_50 rfl hl (by decide) rfl (fun ls hl => ?_)
        exact J_51 fu v1_2 v2_2 0 m_6 _ _ hP hS _ (lv_sub hl [1, 2, 3, 0] rfl) hf hok
      · have hf := ie_eq c1 hf
        have hok := ie_ok c1 hok
        refine lv_aload_n hx hb dX12_votesAt_12 rfl (lv_at hl 0 rfl) ?_
        refine va_get (D := (dC, dI)) (ci := 9) (v := .ref (q 12)) (C := RX12) (T := TX12) (N := 23) hx hb hts hin12 hown hK hP 0 rfl rfl 17 (by decide) fl43 (fun _ h9 => h9) rfl dX12_votesAt_13 ?_
        refine lv_iload_n hx hb dX12_votesAt_16 rfl (lv_at hl 3 rfl) ?_
        refine lv_aload_n hx hb dX12_votesAt_17 rfl (lv_at hl 0 rfl) ?_
        refine lv_iload_n hx hb dX12_votesAt_18 rfl (lv_at hl 1 rfl) ?_
        refine lv_iload_n hx hb dX12_votesAt_19 rfl (lv_at hl 3 rfl) ?_
        obtain ⟨h27, hok⟩ := hok
        refine gro_i (va_runV (As := [.int v1_2, .int v3_2]) (rest := [.int v3_2, .ref (q 12)]) ⟨hx, hb, hml, hown, hts⟩ (mX12_timeFrom l dC dI cI cB cO cL q m_2 v1_2 v3_2  h27) (cwV 2 hts gX12_votesAt_X12_timeFrom rfl rfl rfl (by decide +kernel) ⟨Nat.le_of_ble_eq_true rfl, Nat.le_of_ble_eq_true rfl⟩) ⟨gP_blind, va_recv hK hP (ci := 9) (q0 := 0) rfl rfl, gP_ok hP hK⟩ rfl rfl hl.1 rfl (lv_room (Nat.le_of_ble_eq_true rfl)) dX12_votesAt_20 ⟨Nat.zero_le _, Nat.zero_le _⟩) ?_
        obtain ⟨h28, hok⟩ := hok
        refine va_iast (D := (dC, dI)) (tys := (tYS cI cB cO cL)) hx hb hK hP (gD_va hD rfl) hS 12 0 rfl rfl h28 dX12_votesAt_23 (fun H locs hP _ hS => ?_)
        obtain ⟨m_29, em_29⟩ : ∃ z9 : MS, z9 = msa m_2 11 (upd (m_2.2.2 11) v3_2.toNatClampNeg (pX12_timeFrom m_2 v1_2 v3_2)) := ⟨_, rfl⟩
        have hP : va_P (dC, dI) vwCl (mw q cI m_29) H := by rw [em_29]; exact hP
        have hf := lt_eq em_29 hf
        have hok := lt_ok em_29 hok
        obtain ⟨x30, ex30⟩ : ∃ y : Int32, y = v3_2 + 1 := ⟨_, rfl⟩
        refine lv_iinc (v := x30) (lv' := [(3, .int x30), (0, .ref (q 0)), (1, .int v1_2), (2, .int v2_2)]) hx hb dX12_votesAt_24 hl (k := 3) rfl (by rw [ex30]; rfl) (by decide) rfl (fun ls hl => ?_)
        have hf := lt_eq ex30 hf
        have hok := lt_ok ex30 hok
        refine lv_goto (tgt := 2) hx hb dX12_votesAt_27 (by decide) ?_
        exact ih_2 v1_2 v2_2 x30 m_29 _ _ hP hS _ (lv_sub hl [1, 2, 3, 0] rfl) hf hok
  refine lv_iconst (v := 0) hx hb dX12_votesAt_0 (by decide) ?_
  refine lv_istore_n (lv' := [(3, .int 0), (0, .ref (q 0)), (1, .int a1), (2, .int a2)]) hx hb dX12_votesAt_1 rfl hl (by decide) rfl (fun ls hl => ?_)
  exact J_2 fu a1 a2 0 m _ _ hP hS _ (lv_sub hl [1, 2, 3, 0] rfl) hf hok
noncomputable def pX12_finds_L105  (q_20 : Int32 → Int32 → Int32 → Int32 → MS → (Int32 × MS)) (v1_105 : Int32) (v3_105 : Int32) (v4_105 : Int32) (t0_105 : Int32) (m_105 : MS) : Int32 × MS := lt (v4_105 + 1) fun (x9 : Int32) => q_20 v1_105 t0_105 v3_105 x9 m_105
def kX12_finds_L105  (Q_20 : Int32 → Int32 → Int32 → Int32 → MS → Prop) (v1_105 : Int32) (v3_105 : Int32) (v4_105 : Int32) (t0_105 : Int32) (m_105 : MS) : Prop := lt (v4_105 + 1) fun (x9 : Int32) => Q_20 v1_105 t0_105 v3_105 x9 m_105
noncomputable def pX12_finds_L92  (q_20 : Int32 → Int32 → Int32 → Int32 → MS → (Int32 × MS)) (v1_92 : Int32) (v2_92 : Int32) (v3_92 : Int32) (v4_92 : Int32) (t0_92 : Bool) (m_92 : MS) : Int32 × MS := if t0_92 = true then (pX12_finds_L105 q_20 v1_92 v3_92 v4_92 v4_92 m_92) else (pX12_finds_L105 q_20 v1_92 v3_92 v4_92 v2_92 m_92)
def kX12_finds_L92  (Q_20 : Int32 → Int32 → Int32 → Int32 → MS → Prop) (v1_92 : Int32) (v2_92 : Int32) (v3_92 : Int32) (v4_92 : Int32) (t0_92 : Bool) (m_92 : MS) : Prop := if t0_92 = true then (kX12_finds_L105 Q_20 v1_92 v3_92 v4_92 v4_92 m_92) else (kX12_finds_L105 Q_20 v1_92 v3_92 v4_92 v2_92 m_92)
noncomputable def pX12_finds_L87  (q_20 : Int32 → Int32 → Int32 → Int32 → MS → (Int32 × MS)) (v1_87 : Int32) (v2_87 : Int32) (v3_87 : Int32) (v4_87 : Int32) (m_87 : MS) : Int32 × MS := pX12_finds_L92 q_20 v1_87 v2_87 v3_87 v4_87 true m_87
def kX12_finds_L87  (Q_20 : Int32 → Int32 → Int32 → Int32 → MS → Prop) (v1_87 : Int32) (v2_87 : Int32) (v3_87 : Int32) (v4_87 : Int32) (m_87 : MS) : Prop := kX12_finds_L92 Q_20 v1_87 v2_87 v3_87 v4_87 true m_87
noncomputable def pX12_finds_L91  (q_20 : Int32 → Int32 → Int32 → Int32 → MS → (Int32 × MS)) (v1_91 : Int32) (v2_91 : Int32) (v3_91 : Int32) (v4_91 : Int32) (m_91 : MS) : Int32 × MS := pX12_finds_L92 q_20 v1_91 v2_91 v3_91 v4_91 false m_91
def kX12_finds_L91  (Q_20 : Int32 → Int32 → Int32 → Int32 → MS → Prop) (v1_91 : Int32) (v2_91 : Int32) (v3_91 : Int32) (v4_91 : Int32) (m_91 : MS) : Prop := kX12_finds_L92 Q_20 v1_91 v2_91 v3_91 v4_91 false m_91
noncomputable def bX12_finds_L20   (q_20 : Int32 → Int32 → Int32 → Int32 → MS → (Int32 × MS)) (v1_20 : Int32) (v2_20 : Int32) (v3_20 : Int32) (v4_20 : Int32) (m_20 : MS) : Int32 × MS := if v3_20 ≤ v4_20 then (if (m_20.1 6) = 0 then (((-1000000000), m_20)) else ((v2_20, m_20))) else (lt (pX12_votesAt m_20 v4_20 v1_20) fun (u6 : MS) => if v2_20 = (-1000000000) then (pX12_finds_L87 q_20 v1_20 v2_20 v3_20 v4_20 u6) else (if ((u6.2.2 9) v2_20.toNatClampNeg) < ((u6.2.2 9) v4_20.toNatClampNeg) then (pX12_finds_L87 q_20 v1_20 v2_20 v3_20 v4_20 u6) else (if ((u6.2.2 9) v4_20.toNatClampNeg) = ((u6.2.2 9) v2_20.toNatClampNeg) then (if ((u6.2.2 10) v2_20.toNatClampNeg) ≤ ((u6.2.2 10) v4_20.toNatClampNeg) then (pX12_finds_L91 q_20 v1_20 v2_20 v3_20 v4_20 u6) else (pX12_finds_L87 q_20 v1_20 v2_20 v3_20 v4_20 u6)) else (pX12_finds_L91 q_20 v1_20 v2_20 v3_20 v4_20 u6))))
noncomputable def pX12_finds_L20   : Nat → Int32 → Int32 → Int32 → Int32 → MS → (Int32 × MS)
  | 0 => fun _ _ _ _ m_20 => (0, m_20)
  | n + 1 => bX12_finds_L20   (pX12_finds_L20   n)
def kbX12_finds_L20   (Q_20 : Int32 → Int32 → Int32 → Int32 → MS → Prop) (v1_20 : Int32) (v2_20 : Int32) (v3_20 : Int32) (v4_20 : Int32) (m_20 : MS) : Prop := if v3_20 ≤ v4_20 then (True) else ((kX12_votesAt m_20 v4_20 v1_20) ∧ (lt (pX12_votesAt m_20 v4_20 v1_20) fun (u6 : MS) => if v2_20 = (-1000000000) then (kX12_finds_L87 Q_20 v1_20 v2_20 v3_20 v4_20 u6) else ((vp_in v4_20 400) ∧ ((vp_in v2_20 400) ∧ (if ((u6.2.2 9) v2_20.toNatClampNeg) < ((u6.2.2 9) v4_20.toNatClampNeg) then (kX12_finds_L87 Q_20 v1_20 v2_20 v3_20 v4_20 u6) else ((vp_in v4_20 400) ∧ ((vp_in v2_20 400) ∧ (if ((u6.2.2 9) v4_20.toNatClampNeg) = ((u6.2.2 9) v2_20.toNatClampNeg) then ((vp_in v4_20 400) ∧ ((vp_in v2_20 400) ∧ (if ((u6.2.2 10) v2_20.toNatClampNeg) ≤ ((u6.2.2 10) v4_20.toNatClampNeg) then (kX12_finds_L91 Q_20 v1_20 v2_20 v3_20 v4_20 u6) else (kX12_finds_L87 Q_20 v1_20 v2_20 v3_20 v4_20 u6)))) else (kX12_finds_L91 Q_20 v1_20 v2_20 v3_20 v4_20 u6)))))))))
noncomputable def kX12_finds_L20   : Nat → Int32 → Int32 → Int32 → Int32 → MS → Prop
  | 0 => fun _ _ _ _ _ => False
  | n + 1 => kbX12_finds_L20   (kX12_finds_L20   n)
noncomputable def pX12_finds (m : MS) (a1 : Int32) : Int32 × MS := lt (((m.2.2 0) 0) * ((m.2.2 0) 1)) fun (x1 : Int32) => pX12_finds_L20 fu a1 (-1000000000) x1 0 m
def kX12_finds (m : MS) (a1 : Int32) : Prop := lt (((m.2.2 0) 0) * ((m.2.2 0) 1)) fun (x1 : Int32) => kX12_finds_L20 fu a1 (-1000000000) x1 0 m
abbrev rX12_finds : Room := { frames := 4, cells := 0, slots := 0, locals := 95 }
set_option maxHeartbeats 4000000 in
set_option maxRecDepth 100000 in
theorem mX12_finds (l : Launch) (dC : Nat → ClassId) (dI : Nat → Nat → Nat) (cI cB cO cL : ClassId) (q : Nat → Nat) (m : MS) (a1 : Int32) (hI : gD (fun _ => True) (mAd q)) (hok : kX12_finds m a1) : Met l yX12_finds wsX12_finds rX12_finds (gP (dC, dI) (tYS cI cB cO cL) (mw q cI m) [.ref (q 0), .int a1]) (gQi (dC, dI) (fun m9 => mw q cI m9) (wA (mw q cI m)) (pX12_finds m a1)) 0 0 (wA (mw q cI m)) := by
  refine gMet (cc := cX12_finds) (maxL := 6) (ret := some .int) [(0, .ref (q 0)), (1, .int a1)] (by decide) rfl rfl rfl ?_
  intro p e s mi below meth c C0 hK hP ls hl
  obtain ⟨hx, hb, hr, hml, hown, hts, hlocks⟩ := id C0
  have hown : s.vm.findClass RX12 = some mi.cls := hown
  have hS : va_S (wA (mw q cI m)) s.heap s.heap [] := va_S.rf
  have hD : gD (wA (mw q cI m)) (mAd q) := gD_wA (ws := mw q cI m) hI
  have hP : va_P (dC, dI) vwCl (mw q cI m) s.heap := hP
  obtain ⟨F, hF⟩ : ∃ F, F = pX12_finds m a1 := ⟨_, rfl⟩
  have hf := hF
  have hin12 : ∀ w ∈ u_ws RX12 TX12 23, w ∈ wsX12_finds := by decide +kernel
  have cn71 := hts (.constant RX12 71 (-1000000000)) (by decide +kernel)
  have fl7 := hts (.fieldLink RX12 7 "ClickBenchModel" "s" "[I") (by decide +kernel)
  have fl196 := hts (.fieldLink RX12 196 "ClickBenchModel" "pairMany" "I") (by decide +kernel)
  have fl37 := hts (.fieldLink RX12 37 "ClickBenchModel" "voteMany" "[I") (by decide +kernel)
  have fl40 := hts (.fieldLink RX12 40 "ClickBenchModel" "errors" "[I") (by decide +kernel)
  have J_20 : ∀ (n_20 : Nat) (v1_20 : Int32) (v2_20 : Int32) (v3_20 : Int32) (v4_20 : Int32) (m_20 : MS) (H : Heap) (locs : List Loc), va_P (dC, dI) vwCl (mw q cI m_20) H → va_S (wA (mw q cI m)) s.heap H locs → ∀ ls : Array Slot, lv_has ls 6 [(0, .ref (q 0)), (1, .int v1_20), (2, .int v2_20), (3, .int v3_20), (4, .int v4_20)] → F = pX12_finds_L20 n_20 v1_20 v2_20 v3_20 v4_20 m_20 → kX12_finds_L20 n_20 v1_20 v2_20 v3_20 v4_20 m_20 → W p l e rX12_finds s mi ([.ref (q 0), .int a1] : List Value).toArray below meth c H locs 0 0 (MQ below (gQi (dC, dI) (fun m9 => mw q cI m9) (wA (mw q cI m)) (pX12_finds m a1)) ([.ref (q 0), .int a1] : List Value).toArray s 0 0 (wA (mw q cI m))) (F0 mi 20 ls []) := by
    intro n_20
    induction n_20 with
    | zero =>
      intro v1_20 v2_20 v3_20 v4_20 m_20 H locs hP hS ls hl hf hok
      exact absurd hok (fun h => h)
    | succ n_20 ih_20 =>
      have J_105 : ∀ (v1_105 : Int32) (v3_105 : Int32) (v4_105 : Int32) (t0_105 : Int32) (m_105 : MS) (H : Heap) (locs : List Loc), va_P (dC, dI) vwCl (mw q cI m_105) H → va_S (wA (mw q cI m)) s.heap H locs → ∀ ls : Array Slot, lv_has ls 6 [(0, .ref (q 0)), (1, .int v1_105), (3, .int v3_105), (4, .int v4_105)] → F = pX12_finds_L105 (pX12_finds_L20 n_20) v1_105 v3_105 v4_105 t0_105 m_105 → kX12_finds_L105 (kX12_finds_L20 n_20) v1_105 v3_105 v4_105 t0_105 m_105 → W p l e rX12_finds s mi ([.ref (q 0), .int a1] : List Value).toArray below meth c H locs 0 0 (MQ below (gQi (dC, dI) (fun m9 => mw q cI m9) (wA (mw q cI m)) (pX12_finds m a1)) ([.ref (q 0), .int a1] : List Value).toArray s 0 0 (wA (mw q cI m))) (F0 mi 105 ls [.int t0_105]) := by
        intro v1_105 v3_105 v4_105 t0_105 m_105 H locs hP hS ls hl hf hok
        refine lv_istore_n (lv' := [(2, .int t0_105), (0, .ref (q 0)), (1, .int v1_105), (3, .int v3_105), (4, .int v4_105)]) hx hb dX12_finds_105 rfl hl (by decide) rfl (fun ls hl => ?_)
        obtain ⟨x9, ex9⟩ : ∃ y : Int32, y = v4_105 + 1 := ⟨_, rfl⟩
        refine lv_iinc (v := x9) (lv' := [(4, .int x9), (2, .int t0_105), (0, .ref (q 0)), (1, .int v1_105), (3, .int v3_105)]) hx hb dX12_finds_106 hl (k := 4) rfl (by rw [ex9]; rfl) (by decide) rfl (fun ls hl => ?_)
        have hf := lt_eq ex9 hf
        have hok := lt_ok ex9 hok
        refine lv_goto (tgt := 20) hx hb dX12_finds_109 (by decide) ?_
        exact ih_20 v1_105 t0_105 v3_105 x9 m_105 _ _ hP hS _ (lv_sub hl [2, 3, 1, 4, 0] rfl) hf hok
      have J_92 : ∀ (v1_92 : Int32) (v2_92 : Int32) (v3_92 : Int32) (v4_92 : Int32) (t0_92 : Bool) (m_92 : MS) (H : Heap) (locs : List Loc), va_P (dC, dI) vwCl (mw q cI m_92) H → va_S (wA (mw q cI m)) s.heap H locs → ∀ ls : Array Slot, lv_has ls 6 [(0, .ref (q 0)), (1, .int v1_92), (2, .int v2_92), (3, .int v3_92), (4, .int v4_92)] → F = pX12_finds_L92 (pX12_finds_L20 n_20) v1_92 v2_92 v3_92 v4_92 t0_92 m_92 → kX12_finds_L92 (kX12_finds_L20 n_20) v1_92 v2_92 v3_92 v4_92 t0_92 m_92 → W p l e rX12_finds s mi ([.ref (q 0), .int a1] : List Value).toArray below meth c H locs 0 0 (MQ below (gQi (dC, dI) (fun m9 => mw q cI m9) (wA (mw q cI m)) (pX12_finds m a1)) ([.ref (q 0), .int a1] : List Value).toArray s 0 0 (wA (mw q cI m))) (F0 mi 92 ls [.int (bz t0_92)]) := by
        intro v1_92 v2_92 v3_92 v4_92 t0_92 m_92 H locs hP hS ls hl hf hok
        refine lv_istore (lv' := [(5, .int (bz t0_92)), (0, .ref (q 0)), (1, .int v1_92), (2, .int v2_92), (3, .int v3_92), (4, .int v4_92)]) hx hb dX12_finds_92 hl (by decide) rfl (fun ls hl => ?_)
        refine lv_iload hx hb dX12_finds_94 (lv_at hl 0 rfl) ?_
        refine lv_if_eq (tgt := 104) hx hb dX12_finds_96 (by decide) (fun c8 => ?_) (fun c8 => ?_)
        · have c8 := bz_f c8
          have hf := ie_eq c8 hf
          have hok := ie_ok c8 hok
          refine lv_iload_n hx hb dX12_finds_104 rfl (lv_at hl 3 rfl) ?_
          exact J_105 v1_92 v3_92 v4_92 v2_92 m_92 _ _ hP hS _ (lv_sub hl [1, 2, 4, 5] rfl) hf hok
        · have c8 := bz_t c8
          have hf := it_eq c8 hf
          have hok := it_ok c8 hok
          refine lv_iload hx hb dX12_finds_99 (lv_at hl 5 rfl) ?_
          refine lv_goto (tgt := 105) hx hb dX12_finds_101 (by decide) ?_
          exact J_105 v1_92 v3_92 v4_92 v4_92 m_92 _ _ hP hS _ (lv_sub hl [1, 2, 4, 5] rfl) hf hok
      have J_87 : ∀ (v1_87 : Int32) (v2_87 : Int32) (v3_87 : Int32) (v4_87 : Int32) (m_87 : MS) (H : Heap) (locs : List Loc), va_P (dC, dI) vwCl (mw q cI m_87) H → va_S (wA (mw q cI m)) s.heap H locs → ∀ ls : Array Slot, lv_has ls 6 [(0, .ref (q 0)), (1, .int v1_87), (2, .int v2_87), (3, .int v3_87), (4, .int v4_87)] → F = pX12_finds_L87 (pX12_finds_L20 n_20) v1_87 v2_87 v3_87 v4_87 m_87 → kX12_finds_L87 (kX12_finds_L20 n_20) v1_87 v2_87 v3_87 v4_87 m_87 → W p l e rX12_finds s mi ([.ref (q 0), .int a1] : List Value).toArray below meth c H locs 0 0 (MQ below (gQi (dC, dI) (fun m9 => mw q cI m9) (wA (mw q cI m)) (pX12_finds m a1)) ([.ref (q 0), .int a1] : List Value).toArray s 0 0 (wA (mw q cI m))) (F0 mi 87 ls []) := by
        intro v1_87 v2_87 v3_87 v4_87 m_87 H locs hP hS ls hl hf hok
        refine lv_iconst (v := 1) hx hb dX12_finds_87 (by decide) ?_
        refine lv_goto (tgt := 92) hx hb dX12_finds_88 (by decide) ?_
        exact J_92 v1_87 v2_87 v3_87 v4_87 true m_87 _ _ hP hS _ (lv_sub hl [0, 1, 2, 3, 4] rfl) hf hok
      have J_91 : ∀ (v1_91 : Int32) (v2_91 : Int32) (v3_91 : Int32) (v4_91 : Int32) (m_91 : MS) (H : Heap) (locs : List Loc), va_P (dC, dI) vwCl (mw q cI m_91) H → va_S (wA (mw q cI m)) s.heap H locs → ∀ ls : Array Slot, lv_has ls 6 [(0, .ref (q 0)), (1, .int v1_91), (2, .int v2_91), (3, .int v3_91), (4, .int v4_91)] → F = pX12_finds_L91 (pX12_finds_L20 n_20) v1_91 v2_91 v3_91 v4_91 m_91 → kX12_finds_L91 (kX12_finds_L20 n_20) v1_91 v2_91 v3_91 v4_91 m_91 → W p l e rX12_finds s mi ([.ref (q 0), .int a1] : List Value).toArray below meth c H locs 0 0 (MQ below (gQi (dC, dI) (fun m9 => mw q cI m9) (wA (mw q cI m)) (pX12_finds m a1)) ([.ref (q 0), .int a1] : List Value).toArray s 0 0 (wA (mw q cI m))) (F0 mi 91 ls []) := by
        intro v1_91 v2_91 v3_91 v4_91 m_91 H locs hP hS ls hl hf hok
        refine lv_iconst (v := 0) hx hb dX12_finds_91 (by decide) ?_
        exact J_92 v1_91 v2_91 v3_91 v4_91 false m_91 _ _ hP hS _ (lv_sub hl [0, 1, 2, 3, 4] rfl) hf hok
      intro v1_20 v2_20 v3_20 v4_20 m_20 H locs hP hS ls hl hf hok
      have hf : F = bX12_finds_L20 (pX12_finds_L20 n_20) v1_20 v2_20 v3_20 v4_20 m_20 := hf
      have hok : kbX12_finds_L20 (kX12_finds_L20 n_20) v1_20 v2_20 v3_20 v4_20 m_20 := hok
      refine lv_iload hx hb dX12_finds_20 (lv_at hl 4 rfl) ?_
      refine lv_iload_n hx hb dX12_finds_22 rfl (lv_at hl 3 rfl) ?_
      refine lv_icmp_ge (tgt := 112) hx hb dX12_finds_23 (by decide) (fun c2 => ?_) (fun c2 => ?_)
      · have hf := it_eq c2 hf
        refine lv_aload_n hx hb dX12_finds_112 rfl (lv_at hl 0 rfl) ?_
        refine va_get (D := (dC, dI)) (ci := 9) (v := .int (m_20.1 6)) (C := RX12) (T := TX12) (N := 23) hx hb hts hin12 hown hK hP 0 rfl rfl 18 (by decide) fl196 (fun _ h9 => h9) rfl dX12_finds_113 ?_
        refine lv_if_ne (tgt := 124) hx hb dX12_finds_116 (by decide) (fun c3 => ?_) (fun c3 => ?_)
        · have hf := ie_eq c3 hf
          refine lv_iload_n hx hb dX12_finds_124 rfl (lv_at hl 2 rfl) ?_
          exact e_mi C0 (hf.symm.trans hF) hP hS dX12_finds_125
        · have hf := it_eq c3 hf
          refine lv_ldc (v := (-1000000000)) hx hb hown cn71 dX12_finds_119 ?_
          refine lv_goto (tgt := 125) hx hb dX12_finds_121 (by decide) ?_
          exact e_mi C0 (hf.symm.trans hF) hP hS dX12_finds_125
      · have hf := ie_eq c2 hf
        have hok := ie_ok c2 hok
        refine lv_aload_n hx hb dX12_finds_26 rfl (lv_at hl 0 rfl) ?_
        refine lv_iload hx hb dX12_finds_27 (lv_at hl 4 rfl) ?_
        refine lv_iload_n hx hb dX12_finds_29 rfl (lv_at hl 1 rfl) ?_
        obtain ⟨h4, hok⟩ := hok
        refine gms_v (va_runV (As := [.int v4_20, .int v1_20]) (rest := []) ⟨hx, hb, hml, hown, hts⟩ (mX12_votesAt l dC dI cI cB cO cL q m_20 v4_20 v1_20 (gD_any hD) h4) (cwV 2 hts gX12_finds_X12_votesAt rfl rfl rfl (by decide +kernel) ⟨Nat.le_of_ble_eq_true rfl, Nat.le_of_ble_eq_true rfl⟩) ⟨gP_blind, va_recv hK hP (ci := 9) (q0 := 0) rfl rfl, gP_ok hP hK⟩ rfl rfl hl.1 rfl (lv_room (Nat.le_of_ble_eq_true rfl)) dX12_finds_30 ⟨Nat.zero_le _, Nat.zero_le _⟩) hP (gD_va hD rfl) hS (fun u6 H locs hw hP hS => ?_)
        have hP : va_P (dC, dI) vwCl (mw q cI u6) H := hP
        have hf := lt_eq hw hf
        have hok := lt_ok hw hok
        refine lv_iload_n hx hb dX12_finds_33 rfl (lv_at hl 2 rfl) ?_
        refine lv_ldc (v := (-1000000000)) hx hb hown cn71 dX12_finds_34 ?_
        refine lv_icmp_eq (tgt := 87) hx hb dX12_finds_36 (by decide) (fun c7 => ?_) (fun c7 => ?_)
        · have hf := it_eq c7 hf
          have hok := it_ok c7 hok
          exact J_87 v1_20 v2_20 v3_20 v4_20 u6 _ _ hP hS _ (lv_sub hl [0, 1, 2, 3, 4] rfl) hf hok
        · have hf := ie_eq c7 hf
          have hok := ie_ok c7 hok
          refine lv_aload_n hx hb dX12_finds_39 rfl (lv_at hl 0 rfl) ?_
          refine va_get (D := (dC, dI)) (ci := 9) (v := .ref (q 10)) (C := RX12) (T := TX12) (N := 23) hx hb hts hin12 hown hK hP 0 rfl rfl 15 (by decide) fl37 (fun _ h9 => h9) rfl dX12_finds_40 ?_
          refine lv_iload hx hb dX12_finds_43 (lv_at hl 4 rfl) ?_
          obtain ⟨h18, hok⟩ := hok
          refine va_iald (D := (dC, dI)) (tys := (tYS cI cB cO cL)) hx hb hK hP 10 0 rfl rfl h18 dX12_finds_45 ?_
          refine lv_aload_n hx hb dX12_finds_46 rfl (lv_at hl 0 rfl) ?_
          refine va_get (D := (dC, dI)) (ci := 9) (v := .ref (q 10)) (C := RX12) (T := TX12) (N := 23) hx hb hts hin12 hown hK hP 0 rfl rfl 15 (by decide) fl37 (fun _ h9 => h9) rfl dX12_finds_47 ?_
          refine lv_iload_n hx hb dX12_finds_50 rfl (lv_at hl 2 rfl) ?_
          obtain ⟨h17, hok⟩ := hok
          refine va_iald (D := (dC, dI)) (tys := (tYS cI cB cO cL)) hx hb hK hP 10 0 rfl rfl h17 dX12_finds_51 ?_
          refine lv_icmp_gt (tgt := 87) hx hb dX12_finds_52 (by decide) (fun c10 => ?_) (fun c10 => ?_)
          · have hf := it_eq c10 hf
            have hok := it_ok c10 hok
            exact J_87 v1_20 v2_20 v3_20 v4_20 u6 _ _ hP hS _ (lv_sub hl [0, 1, 2, 3, 4] rfl) hf hok
          · have hf := ie_eq c10 hf
            have hok := ie_ok c10 hok
            refine lv_aload_n hx hb dX12_finds_55 rfl (lv_at hl 0 rfl) ?_
            refine va_get (D := (dC, dI)) (ci := 9) (v := .ref (q 10)) (C := RX12) (T := TX12) (N := 23) hx hb hts hin12 hown hK hP 0 rfl rfl 15 (by decide) fl37 (fun _ h9 => h9) rfl dX12_finds_56 ?_
            refine lv_iload hx hb dX12_finds_59 (lv_at hl 4 rfl) ?_
            obtain ⟨h16, hok⟩ := hok
            refine va_iald (D := (dC, dI)) (tys := (tYS cI cB cO cL)) hx hb hK hP 10 0 rfl rfl h16 dX12_finds_61 ?_
            refine lv_aload_n hx hb dX12_finds_62 rfl (lv_at hl 0 rfl) ?_
            refine va_get (D := (dC, dI)) (ci := 9) (v := .ref (q 10)) (C := RX12) (T := TX12) (N := 23) hx hb hts hin12 hown hK hP 0 rfl rfl 15 (by decide) fl37 (fun _ h9 => h9) rfl dX12_finds_63 ?_
            refine lv_iload_n hx hb dX12_finds_66 rfl (lv_at hl 2 rfl) ?_
            obtain ⟨h15, hok⟩ := hok
            refine va_iald (D := (dC, dI)) (tys := (tYS cI cB cO cL)) hx hb hK hP 10 0 rfl rfl h15 dX12_finds_67 ?_
            refine lv_icmp_ne (tgt := 91) hx hb dX12_finds_68 (by decide) (fun c11 => ?_) (fun c11 => ?_)
            · have hf := ie_eq c11 hf
              have hok := ie_ok c11 hok
              exact J_91 v1_20 v2_20 v3_20 v4_20 u6 _ _ hP hS _ (lv_sub hl [0, 1, 2, 3, 4] rfl) hf hok
            · have hf := it_eq c11 hf
              have hok := it_ok c11 hok
              refine lv_aload_n hx hb dX12_finds_71 rfl (lv_at hl 0 rfl) ?_
              refine va_get (D := (dC, dI)) (ci := 9) (v := .ref (q 11)) (C := RX12) (T := TX12) (N := 23) hx hb hts hin12 hown hK hP 0 rfl rfl 16 (by decide) fl40 (fun _ h9 => h9) rfl dX12_finds_72 ?_
              refine lv_iload hx hb dX12_finds_75 (lv_at hl 4 rfl) ?_
              obtain ⟨h14, hok⟩ := hok
              refine va_iald (D := (dC, dI)) (tys := (tYS cI cB cO cL)) hx hb hK hP 11 0 rfl rfl h14 dX12_finds_77 ?_
              refine lv_aload_n hx hb dX12_finds_78 rfl (lv_at hl 0 rfl) ?_
              refine va_get (D := (dC, dI)) (ci := 9) (v := .ref (q 11)) (C := RX12) (T := TX12) (N := 23) hx hb hts hin12 hown hK hP 0 rfl rfl 16 (by decide) fl40 (fun _ h9 => h9) rfl dX12_finds_79 ?_
              refine lv_iload_n hx hb dX12_finds_82 rfl (lv_at hl 2 rfl) ?_
              obtain ⟨h13, hok⟩ := hok
              refine va_iald (D := (dC, dI)) (tys := (tYS cI cB cO cL)) hx hb hK hP 11 0 rfl rfl h13 dX12_finds_83 ?_
              refine lv_icmp_ge (tgt := 91) hx hb dX12_finds_84 (by decide) (fun c12 => ?_) (fun c12 => ?_)
              · have hf := it_eq c12 hf
                have hok := it_ok c12 hok
                exact J_91 v1_20 v2_20 v3_20 v4_20 u6 _ _ hP hS _ (lv_sub hl [0, 1, 2, 3, 4] rfl) hf hok
              · have hf := ie_eq c12 hf
                have hok := ie_ok c12 hok
                exact J_87 v1_20 v2_20 v3_20 v4_20 u6 _ _ hP hS _ (lv_sub hl [0, 1, 2, 3, 4] rfl) hf hok
  refine lv_ldc (v := (-1000000000)) hx hb hown cn71 dX12_finds_0 ?_
  refine lv_istore_n (lv' := [(2, .int (-1000000000)), (0, .ref (q 0)), (1, .int a1)]) hx hb dX12_finds_2 rfl hl (by decide) rfl (fun ls hl => ?_)
  refine lv_aload_n hx hb dX12_finds_3 rfl (lv_at hl 1 rfl) ?_
  refine va_get (D := (dC, dI)) (ci := 9) (v := .ref (q 1)) (C := RX12) (T := TX12) (N := 23) hx hb hts hin12 hown hK hP 0 rfl rfl 0 (by decide) fl7 (fun _ h9 => h9) rfl dX12_finds_4 ?_
  refine lv_iconst (v := 0) hx hb dX12_finds_7 (by decide) ?_
  refine g_ialdK (D := (dC, dI)) (tys := (tYS cI cB cO cL)) (k := 0) hx hb hK hP 1 0 rfl rfl (by decide) (by decide) (by decide) dX12_finds_8 ?_
  refine lv_aload_n hx hb dX12_finds_9 rfl (lv_at hl 1 rfl) ?_
  refine va_get (D := (dC, dI)) (ci := 9) (v := .ref (q 1)) (C := RX12) (T := TX12) (N := 23) hx hb hts hin12 hown hK hP 0 rfl rfl 0 (by decide) fl7 (fun _ h9 => h9) rfl dX12_finds_10 ?_
  refine lv_iconst (v := 1) hx hb dX12_finds_13 (by decide) ?_
  refine g_ialdK (D := (dC, dI)) (tys := (tYS cI cB cO cL)) (k := 1) hx hb hK hP 1 0 rfl rfl (by decide) (by decide) (by decide) dX12_finds_14 ?_
  refine lv_imul hx hb dX12_finds_15 ?_
  refine lv_topi (fun x1 ex1 => ?_)
  have hf := lt_eq ex1 hf
  have hok := lt_ok ex1 hok
  refine lv_istore_n (lv' := [(3, .int x1), (2, .int (-1000000000)), (0, .ref (q 0)), (1, .int a1)]) hx hb dX12_finds_16 rfl hl (by decide) rfl (fun ls hl => ?_)
  refine lv_iconst (v := 0) hx hb dX12_finds_17 (by decide) ?_
  refine lv_istore (lv' := [(4, .int 0), (3, .int x1), (2, .int (-1000000000)), (0, .ref (q 0)), (1, .int a1)]) hx hb dX12_finds_18 hl (by decide) rfl (fun ls hl => ?_)
  exact J_20 fu a1 (-1000000000) x1 0 m _ _ hP hS _ (lv_sub hl [3, 4, 2, 1, 0] rfl) hf hok
noncomputable def pX12_delay_L16   (m_16 : MS) : Int32 × MS := bd (pX12_fails m_16 1) fun (r2 : Int32) (u3 : MS) => (r2, u3)
noncomputable def pX12_delay_L63   (t1_63 : Int32) (m_63 : MS) : Int32 × MS := bd (pX12_tells m_63 t1_63) fun (r8 : Int32) (u9 : MS) => (r8, u9)
noncomputable def pX12_delay (m : MS) (a1 : Int32) (a2 : Int32) : Int32 × MS := if (pX12_isMicrophone m a1) = true then (if (pX12_isMicrophone m a2) = true then (if a1 = a2 then (bd (pX12_fails m 2) fun (r12 : Int32) (u13 : MS) => (r12, u13)) else (if (pX12_arePair m a1 a2 (-1000000000)) = true then (pX12_delay_L63 ((pX12_of m a1 5) - (pX12_of m a2 5)) m) else (pX12_delay_L63 (-1000000000) m))) else (pX12_delay_L16 m)) else (pX12_delay_L16 m)
def kX12_delay (m : MS) (a1 : Int32) (a2 : Int32) : Prop := if (pX12_isMicrophone m a1) = true then (if (pX12_isMicrophone m a2) = true then (if a1 = a2 then (True) else ((kX12_arePair m a1 a2 (-1000000000)) ∧ (if (pX12_arePair m a1 a2 (-1000000000)) = true then ((kX12_of m a1 5) ∧ (kX12_of m a2 5)) else (True)))) else (True)) else (True)
abbrev rX12_delay : Room := { frames := 2, cells := 0, slots := 0, locals := 45 }
set_option maxHeartbeats 4000000 in
set_option maxRecDepth 100000 in
theorem mX12_delay (l : Launch) (dC : Nat → ClassId) (dI : Nat → Nat → Nat) (cI cB cO cL : ClassId) (q : Nat → Nat) (m : MS) (a1 : Int32) (a2 : Int32) (hI : gD (fun _ => True) (mAd q)) (hok : kX12_delay m a1 a2) : Met l yX12_delay wsX12_delay rX12_delay (gP (dC, dI) (tYS cI cB cO cL) (mw q cI m) [.ref (q 0), .int a1, .int a2]) (gQi (dC, dI) (fun m9 => mw q cI m9) (wA (mw q cI m)) (pX12_delay m a1 a2)) 0 0 (wA (mw q cI m)) := by
  refine gMet (cc := cX12_delay) (maxL := 3) (ret := some .int) [(0, .ref (q 0)), (1, .int a1), (2, .int a2)] (by decide) rfl rfl rfl ?_
  intro p e s mi below meth c C0 hK hP ls hl
  obtain ⟨hx, hb, hr, hml, hown, hts, hlocks⟩ := id C0
  have hown : s.vm.findClass RX12 = some mi.cls := hown
  have hS : va_S (wA (mw q cI m)) s.heap s.heap [] := va_S.rf
  have hD : gD (wA (mw q cI m)) (mAd q) := gD_wA (ws := mw q cI m) hI
  have hP : va_P (dC, dI) vwCl (mw q cI m) s.heap := hP
  obtain ⟨F, hF⟩ : ∃ F, F = pX12_delay m a1 a2 := ⟨_, rfl⟩
  have hf := hF
  have cn71 := hts (.constant RX12 71 (-1000000000)) (by decide +kernel)
  have J_16 : ∀ (m_16 : MS) (H : Heap) (locs : List Loc), va_P (dC, dI) vwCl (mw q cI m_16) H → va_S (wA (mw q cI m)) s.heap H locs → ∀ ls : Array Slot, lv_has ls 3 [(0, .ref (q 0))] → F = pX12_delay_L16 m_16 → W p l e rX12_delay s mi ([.ref (q 0), .int a1, .int a2] : List Value).toArray below meth c H locs 0 0 (MQ below (gQi (dC, dI) (fun m9 => mw q cI m9) (wA (mw q cI m)) (pX12_delay m a1 a2)) ([.ref (q 0), .int a1, .int a2] : List Value).toArray s 0 0 (wA (mw q cI m))) (F0 mi 16 ls []) := by
    intro m_16 H locs hP hS ls hl hf
    refine lv_aload_n hx hb dX12_delay_16 rfl (lv_at hl 0 rfl) ?_
    refine lv_iconst (v := 1) hx hb dX12_delay_17 (by decide) ?_
    refine gms_i (va_runV (As := [.int 1]) (rest := []) ⟨hx, hb, hml, hown, hts⟩ (mX12_fails l dC dI cI cB cO cL q m_16 1 (gD_any hD) ) (cwV 1 hts gX12_delay_X12_fails rfl rfl rfl (by decide +kernel) ⟨Nat.le_of_ble_eq_true rfl, Nat.le_of_ble_eq_true rfl⟩) ⟨gP_blind, va_recv hK hP (ci := 9) (q0 := 0) rfl rfl, gP_ok hP hK⟩ rfl rfl hl.1 rfl (lv_room (Nat.le_of_ble_eq_true rfl)) dX12_delay_18 ⟨Nat.zero_le _, Nat.zero_le _⟩) hP (gD_va hD rfl) hS (fun r2 u3 H locs hw hP hS => ?_)
    have hP : va_P (dC, dI) vwCl (mw q cI u3) H := hP
    have hf := bd_eq hw hf
    exact e_mi C0 (hf.symm.trans hF) hP hS dX12_delay_21
  have J_63 : ∀ (t1_63 : Int32) (m_63 : MS) (H : Heap) (locs : List Loc), va_P (dC, dI) vwCl (mw q cI m_63) H → va_S (wA (mw q cI m)) s.heap H locs → ∀ ls : Array Slot, lv_has ls 3 [] → F = pX12_delay_L63 t1_63 m_63 → W p l e rX12_delay s mi ([.ref (q 0), .int a1, .int a2] : List Value).toArray below meth c H locs 0 0 (MQ below (gQi (dC, dI) (fun m9 => mw q cI m9) (wA (mw q cI m)) (pX12_delay m a1 a2)) ([.ref (q 0), .int a1, .int a2] : List Value).toArray s 0 0 (wA (mw q cI m))) (F0 mi 63 ls [.int t1_63, .ref (q 0)]) := by
    intro t1_63 m_63 H locs hP hS ls hl hf
    refine gms_i (va_runV (As := [.int t1_63]) (rest := []) ⟨hx, hb, hml, hown, hts⟩ (mX12_tells l dC dI cI cB cO cL q m_63 t1_63 (gD_any hD) ) (cwV 1 hts gX12_delay_X12_tells rfl rfl rfl (by decide +kernel) ⟨Nat.le_of_ble_eq_true rfl, Nat.le_of_ble_eq_true rfl⟩) ⟨gP_blind, va_recv hK hP (ci := 9) (q0 := 0) rfl rfl, gP_ok hP hK⟩ rfl rfl hl.1 rfl (lv_room (Nat.le_of_ble_eq_true rfl)) dX12_delay_63 ⟨Nat.zero_le _, Nat.zero_le _⟩) hP (gD_va hD rfl) hS (fun r8 u9 H locs hw hP hS => ?_)
    have hP : va_P (dC, dI) vwCl (mw q cI u9) H := hP
    have hf := bd_eq hw hf
    exact e_mi C0 (hf.symm.trans hF) hP hS dX12_delay_66
  refine lv_aload_n hx hb dX12_delay_0 rfl (lv_at hl 0 rfl) ?_
  refine lv_iload_n hx hb dX12_delay_1 rfl (lv_at hl 1 rfl) ?_
  refine gro_i (va_runV (As := [.int a1]) (rest := []) ⟨hx, hb, hml, hown, hts⟩ (mX12_isMicrophone l dC dI cI cB cO cL q m a1  ) (cwV 1 hts gX12_delay_X12_isMicrophone rfl rfl rfl (by decide +kernel) ⟨Nat.le_of_ble_eq_true rfl, Nat.le_of_ble_eq_true rfl⟩) ⟨gP_blind, va_recv hK hP (ci := 9) (q0 := 0) rfl rfl, gP_ok hP hK⟩ rfl rfl hl.1 rfl (lv_room (Nat.le_of_ble_eq_true rfl)) dX12_delay_2 ⟨Nat.zero_le _, Nat.zero_le _⟩) ?_
  refine lv_if_eq (tgt := 16) hx hb dX12_delay_5 (by decide) (fun c1 => ?_) (fun c1 => ?_)
  · have c1 := bz_f c1
    have hf := ie_eq c1 hf
    exact J_16 m _ _ hP hS _ (lv_sub hl [0] rfl) hf
  · have c1 := bz_t c1
    have hf := it_eq c1 hf
    have hok := it_ok c1 hok
    refine lv_aload_n hx hb dX12_delay_8 rfl (lv_at hl 0 rfl) ?_
    refine lv_iload_n hx hb dX12_delay_9 rfl (lv_at hl 2 rfl) ?_
    refine gro_i (va_runV (As := [.int a2]) (rest := []) ⟨hx, hb, hml, hown, hts⟩ (mX12_isMicrophone l dC dI cI cB cO cL q m a2  ) (cwV 1 hts gX12_delay_X12_isMicrophone rfl rfl rfl (by decide +kernel) ⟨Nat.le_of_ble_eq_true rfl, Nat.le_of_ble_eq_true rfl⟩) ⟨gP_blind, va_recv hK hP (ci := 9) (q0 := 0) rfl rfl, gP_ok hP hK⟩ rfl rfl hl.1 rfl (lv_room (Nat.le_of_ble_eq_true rfl)) dX12_delay_10 ⟨Nat.zero_le _, Nat.zero_le _⟩) ?_
    refine lv_if_ne (tgt := 22) hx hb dX12_delay_13 (by decide) (fun c4 => ?_) (fun c4 => ?_)
    · have c4 := bz_t c4
      have hf := it_eq c4 hf
      have hok := it_ok c4 hok
      refine lv_iload_n hx hb dX12_delay_22 rfl (lv_at hl 1 rfl) ?_
      refine lv_iload_n hx hb dX12_delay_23 rfl (lv_at hl 2 rfl) ?_
      refine lv_icmp_ne (tgt := 33) hx hb dX12_delay_24 (by decide) (fun c5 => ?_) (fun c5 => ?_)
      · have hf := ie_eq c5 hf
        have hok := ie_ok c5 hok
        refine lv_aload_n hx hb dX12_delay_33 rfl (lv_at hl 0 rfl) ?_
        refine lv_aload_n hx hb dX12_delay_34 rfl (lv_at hl 0 rfl) ?_
        refine lv_iload_n hx hb dX12_delay_35 rfl (lv_at hl 1 rfl) ?_
        refine lv_iload_n hx hb dX12_delay_36 rfl (lv_at hl 2 rfl) ?_
        refine lv_ldc (v := (-1000000000)) hx hb hown cn71 dX12_delay_37 ?_
        obtain ⟨h6, hok⟩ := hok
        refine gro_i (va_runV (As := [.int a1, .int a2, .int (-1000000000)]) (rest := [.ref (q 0)]) ⟨hx, hb, hml, hown, hts⟩ (mX12_arePair l dC dI cI cB cO cL q m a1 a2 (-1000000000)  h6) (cwV 3 hts gX12_delay_X12_arePair rfl rfl rfl (by decide +kernel) ⟨Nat.le_of_ble_eq_true rfl, Nat.le_of_ble_eq_true rfl⟩) ⟨gP_blind, va_recv hK hP (ci := 9) (q0 := 0) rfl rfl, gP_ok hP hK⟩ rfl rfl hl.1 rfl (lv_room (Nat.le_of_ble_eq_true rfl)) dX12_delay_39 ⟨Nat.zero_le _, Nat.zero_le _⟩) ?_
        refine lv_if_eq (tgt := 61) hx hb dX12_delay_42 (by decide) (fun c7 => ?_) (fun c7 => ?_)
        · have c7 := bz_f c7
          have hf := ie_eq c7 hf
          refine lv_ldc (v := (-1000000000)) hx hb hown cn71 dX12_delay_61 ?_
          exact J_63 (-1000000000) m _ _ hP hS _ (lv_sub hl [] rfl) hf
        · have c7 := bz_t c7
          have hf := it_eq c7 hf
          have hok := it_ok c7 hok
          refine lv_aload_n hx hb dX12_delay_45 rfl (lv_at hl 0 rfl) ?_
          refine lv_iload_n hx hb dX12_delay_46 rfl (lv_at hl 1 rfl) ?_
          refine lv_iconst (v := 5) hx hb dX12_delay_47 (by decide) ?_
          obtain ⟨h10, hok⟩ := hok
          refine gro_i (va_runV (As := [.int a1, .int 5]) (rest := [.ref (q 0)]) ⟨hx, hb, hml, hown, hts⟩ (mX12_of l dC dI cI cB cO cL q m a1 5  h10) (cwV 2 hts gX12_delay_X12_of rfl rfl rfl (by decide +kernel) ⟨Nat.le_of_ble_eq_true rfl, Nat.le_of_ble_eq_true rfl⟩) ⟨gP_blind, va_recv hK hP (ci := 9) (q0 := 0) rfl rfl, gP_ok hP hK⟩ rfl rfl hl.1 rfl (lv_room (Nat.le_of_ble_eq_true rfl)) dX12_delay_48 ⟨Nat.zero_le _, Nat.zero_le _⟩) ?_
          refine lv_aload_n hx hb dX12_delay_51 rfl (lv_at hl 0 rfl) ?_
          refine lv_iload_n hx hb dX12_delay_52 rfl (lv_at hl 2 rfl) ?_
          refine lv_iconst (v := 5) hx hb dX12_delay_53 (by decide) ?_
          have h11 : kX12_of m a2 5 := hok
          refine gro_i (va_runV (As := [.int a2, .int 5]) (rest := [.int (pX12_of m a1 5), .ref (q 0)]) ⟨hx, hb, hml, hown, hts⟩ (mX12_of l dC dI cI cB cO cL q m a2 5  h11) (cwV 2 hts gX12_delay_X12_of rfl rfl rfl (by decide +kernel) ⟨Nat.le_of_ble_eq_true rfl, Nat.le_of_ble_eq_true rfl⟩) ⟨gP_blind, va_recv hK hP (ci := 9) (q0 := 0) rfl rfl, gP_ok hP hK⟩ rfl rfl hl.1 rfl (lv_room (Nat.le_of_ble_eq_true rfl)) dX12_delay_54 ⟨Nat.zero_le _, Nat.zero_le _⟩) ?_
          refine lv_isub hx hb dX12_delay_57 ?_
          refine lv_goto (tgt := 63) hx hb dX12_delay_58 (by decide) ?_
          exact J_63 ((pX12_of m a1 5) - (pX12_of m a2 5)) m _ _ hP hS _ (lv_sub hl [] rfl) hf
      · have hf := it_eq c5 hf
        refine lv_aload_n hx hb dX12_delay_27 rfl (lv_at hl 0 rfl) ?_
        refine lv_iconst (v := 2) hx hb dX12_delay_28 (by decide) ?_
        refine gms_i (va_runV (As := [.int 2]) (rest := []) ⟨hx, hb, hml, hown, hts⟩ (mX12_fails l dC dI cI cB cO cL q m 2 (gD_any hD) ) (cwV 1 hts gX12_delay_X12_fails rfl rfl rfl (by decide +kernel) ⟨Nat.le_of_ble_eq_true rfl, Nat.le_of_ble_eq_true rfl⟩) ⟨gP_blind, va_recv hK hP (ci := 9) (q0 := 0) rfl rfl, gP_ok hP hK⟩ rfl rfl hl.1 rfl (lv_room (Nat.le_of_ble_eq_true rfl)) dX12_delay_29 ⟨Nat.zero_le _, Nat.zero_le _⟩) hP (gD_va hD rfl) hS (fun r12 u13 H locs hw hP hS => ?_)
        have hP : va_P (dC, dI) vwCl (mw q cI u13) H := hP
        have hf := bd_eq hw hf
        exact e_mi C0 (hf.symm.trans hF) hP hS dX12_delay_32
    · have c4 := bz_f c4
      have hf := ie_eq c4 hf
      exact J_16 m _ _ hP hS _ (lv_sub hl [0] rfl) hf
noncomputable def pX12_expected_L24   (m_24 : MS) : Int32 × MS := bd (pX12_fails m_24 1) fun (r2 : Int32) (u3 : MS) => (r2, u3)
noncomputable def pX12_expected (m : MS) (a1 : Int32) (a2 : Int32) (a3 : Int32) : Int32 × MS := if (pX12_isCell m a1) = true then (if (pX12_isMicrophone m a2) = true then (if (pX12_isMicrophone m a3) = true then (if a2 = a3 then (bd (pX12_fails m 2) fun (r11 : Int32) (u12 : MS) => (r11, u12)) else (bd (pX12_tells m ((pX12_timeFrom m a1 a2) - (pX12_timeFrom m a1 a3))) fun (r9 : Int32) (u10 : MS) => (r9, u10))) else (pX12_expected_L24 m)) else (pX12_expected_L24 m)) else (pX12_expected_L24 m)
def kX12_expected (m : MS) (a1 : Int32) (a2 : Int32) (a3 : Int32) : Prop := if (pX12_isCell m a1) = true then (if (pX12_isMicrophone m a2) = true then (if (pX12_isMicrophone m a3) = true then (if a2 = a3 then (True) else ((kX12_timeFrom m a1 a2) ∧ (kX12_timeFrom m a1 a3))) else (True)) else (True)) else (True)
abbrev rX12_expected : Room := { frames := 3, cells := 0, slots := 0, locals := 70 }
set_option maxHeartbeats 4000000 in
set_option maxRecDepth 100000 in
theorem mX12_expected (l : Launch) (dC : Nat → ClassId) (dI : Nat → Nat → Nat) (cI cB cO cL : ClassId) (q : Nat → Nat) (m : MS) (a1 : Int32) (a2 : Int32) (a3 : Int32) (hI : gD (fun _ => True) (mAd q)) (hok : kX12_expected m a1 a2 a3) : Met l yX12_expected wsX12_expected rX12_expected (gP (dC, dI) (tYS cI cB cO cL) (mw q cI m) [.ref (q 0), .int a1, .int a2, .int a3]) (gQi (dC, dI) (fun m9 => mw q cI m9) (wA (mw q cI m)) (pX12_expected m a1 a2 a3)) 0 0 (wA (mw q cI m)) := by
  refine gMet (cc := cX12_expected) (maxL := 4) (ret := some .int) [(0, .ref (q 0)), (1, .int a1), (2, .int a2), (3, .int a3)] (by decide) rfl rfl rfl ?_
  intro p e s mi below meth c C0 hK hP ls hl
  obtain ⟨hx, hb, hr, hml, hown, hts, hlocks⟩ := id C0
  have hown : s.vm.findClass RX12 = some mi.cls := hown
  have hS : va_S (wA (mw q cI m)) s.heap s.heap [] := va_S.rf
  have hD : gD (wA (mw q cI m)) (mAd q) := gD_wA (ws := mw q cI m) hI
  have hP : va_P (dC, dI) vwCl (mw q cI m) s.heap := hP
  obtain ⟨F, hF⟩ : ∃ F, F = pX12_expected m a1 a2 a3 := ⟨_, rfl⟩
  have hf := hF
  have J_24 : ∀ (m_24 : MS) (H : Heap) (locs : List Loc), va_P (dC, dI) vwCl (mw q cI m_24) H → va_S (wA (mw q cI m)) s.heap H locs → ∀ ls : Array Slot, lv_has ls 4 [(0, .ref (q 0))] → F = pX12_expected_L24 m_24 → W p l e rX12_expected s mi ([.ref (q 0), .int a1, .int a2, .int a3] : List Value).toArray below meth c H locs 0 0 (MQ below (gQi (dC, dI) (fun m9 => mw q cI m9) (wA (mw q cI m)) (pX12_expected m a1 a2 a3)) ([.ref (q 0), .int a1, .int a2, .int a3] : List Value).toArray s 0 0 (wA (mw q cI m))) (F0 mi 24 ls []) := by
    intro m_24 H locs hP hS ls hl hf
    refine lv_aload_n hx hb dX12_expected_24 rfl (lv_at hl 0 rfl) ?_
    refine lv_iconst (v := 1) hx hb dX12_expected_25 (by decide) ?_
    refine gms_i (va_runV (As := [.int 1]) (rest := []) ⟨hx, hb, hml, hown, hts⟩ (mX12_fails l dC dI cI cB cO cL q m_24 1 (gD_any hD) ) (cwV 1 hts gX12_expected_X12_fails rfl rfl rfl (by decide +kernel) ⟨Nat.le_of_ble_eq_true rfl, Nat.le_of_ble_eq_true rfl⟩) ⟨gP_blind, va_recv hK hP (ci := 9) (q0 := 0) rfl rfl, gP_ok hP hK⟩ rfl rfl hl.1 rfl (lv_room (Nat.le_of_ble_eq_true rfl)) dX12_expected_26 ⟨Nat.zero_le _, Nat.zero_le _⟩) hP (gD_va hD rfl) hS (fun r2 u3 H locs hw hP hS => ?_)
    have hP : va_P (dC, dI) vwCl (mw q cI u3) H := hP
    have hf := bd_eq hw hf
    exact e_mi C0 (hf.symm.trans hF) hP hS dX12_expected_29
  refine lv_aload_n hx hb dX12_expected_0 rfl (lv_at hl 0 rfl) ?_
  refine lv_iload_n hx hb dX12_expected_1 rfl (lv_at hl 1 rfl) ?_
  refine gro_i (va_runV (As := [.int a1]) (rest := []) ⟨hx, hb, hml, hown, hts⟩ (mX12_isCell l dC dI cI cB cO cL q m a1  ) (cwV 1 hts gX12_expected_X12_isCell rfl rfl rfl (by decide +kernel) ⟨Nat.le_of_ble_eq_true rfl, Nat.le_of_ble_eq_true rfl⟩) ⟨gP_blind, va_recv hK hP (ci := 9) (q0 := 0) rfl rfl, gP_ok hP hK⟩ rfl rfl hl.1 rfl (lv_room (Nat.le_of_ble_eq_true rfl)) dX12_expected_2 ⟨Nat.zero_le _, Nat.zero_le _⟩) ?_
  refine lv_if_eq (tgt := 24) hx hb dX12_expected_5 (by decide) (fun c1 => ?_) (fun c1 => ?_)
  · have c1 := bz_f c1
    have hf := ie_eq c1 hf
    exact J_24 m _ _ hP hS _ (lv_sub hl [0] rfl) hf
  · have c1 := bz_t c1
    have hf := it_eq c1 hf
    have hok := it_ok c1 hok
    refine lv_aload_n hx hb dX12_expected_8 rfl (lv_at hl 0 rfl) ?_
    refine lv_iload_n hx hb dX12_expected_9 rfl (lv_at hl 2 rfl) ?_
    refine gro_i (va_runV (As := [.int a2]) (rest := []) ⟨hx, hb, hml, hown, hts⟩ (mX12_isMicrophone l dC dI cI cB cO cL q m a2  ) (cwV 1 hts gX12_expected_X12_isMicrophone rfl rfl rfl (by decide +kernel) ⟨Nat.le_of_ble_eq_true rfl, Nat.le_of_ble_eq_true rfl⟩) ⟨gP_blind, va_recv hK hP (ci := 9) (q0 := 0) rfl rfl, gP_ok hP hK⟩ rfl rfl hl.1 rfl (lv_room (Nat.le_of_ble_eq_true rfl)) dX12_expected_10 ⟨Nat.zero_le _, Nat.zero_le _⟩) ?_
    refine lv_if_eq (tgt := 24) hx hb dX12_expected_13 (by decide) (fun c4 => ?_) (fun c4 => ?_)
    · have c4 := bz_f c4
      have hf := ie_eq c4 hf
      exact J_24 m _ _ hP hS _ (lv_sub hl [0] rfl) hf
    · have c4 := bz_t c4
      have hf := it_eq c4 hf
      have hok := it_ok c4 hok
      refine lv_aload_n hx hb dX12_expected_16 rfl (lv_at hl 0 rfl) ?_
      refine lv_iload_n hx hb dX12_expected_17 rfl (lv_at hl 3 rfl) ?_
      refine gro_i (va_runV (As := [.int a3]) (rest := []) ⟨hx, hb, hml, hown, hts⟩ (mX12_isMicrophone l dC dI cI cB cO cL q m a3  ) (cwV 1 hts gX12_expected_X12_isMicrophone rfl rfl rfl (by decide +kernel) ⟨Nat.le_of_ble_eq_true rfl, Nat.le_of_ble_eq_true rfl⟩) ⟨gP_blind, va_recv hK hP (ci := 9) (q0 := 0) rfl rfl, gP_ok hP hK⟩ rfl rfl hl.1 rfl (lv_room (Nat.le_of_ble_eq_true rfl)) dX12_expected_18 ⟨Nat.zero_le _, Nat.zero_le _⟩) ?_
      refine lv_if_ne (tgt := 30) hx hb dX12_expected_21 (by decide) (fun c5 => ?_) (fun c5 => ?_)
      · have c5 := bz_t c5
        have hf := it_eq c5 hf
        have hok := it_ok c5 hok
        refine lv_iload_n hx hb dX12_expected_30 rfl (lv_at hl 2 rfl) ?_
        refine lv_iload_n hx hb dX12_expected_31 rfl (lv_at hl 3 rfl) ?_
        refine lv_icmp_ne (tgt := 43) hx hb dX12_expected_32 (by decide) (fun c6 => ?_) (fun c6 => ?_)
        · have hf := ie_eq c6 hf
          have hok := ie_ok c6 hok
          refine lv_aload_n hx hb dX12_expected_43 rfl (lv_at hl 0 rfl) ?_
          refine lv_aload_n hx hb dX12_expected_44 rfl (lv_at hl 0 rfl) ?_
          refine lv_iload_n hx hb dX12_expected_45 rfl (lv_at hl 1 rfl) ?_
          refine lv_iload_n hx hb dX12_expected_46 rfl (lv_at hl 2 rfl) ?_
          obtain ⟨h7, hok⟩ := hok
          refine gro_i (va_runV (As := [.int a1, .int a2]) (rest := [.ref (q 0)]) ⟨hx, hb, hml, hown, hts⟩ (mX12_timeFrom l dC dI cI cB cO cL q m a1 a2  h7) (cwV 2 hts gX12_expected_X12_timeFrom rfl rfl rfl (by decide +kernel) ⟨Nat.le_of_ble_eq_true rfl, Nat.le_of_ble_eq_true rfl⟩) ⟨gP_blind, va_recv hK hP (ci := 9) (q0 := 0) rfl rfl, gP_ok hP hK⟩ rfl rfl hl.1 rfl (lv_room (Nat.le_of_ble_eq_true rfl)) dX12_expected_47 ⟨Nat.zero_le _, Nat.zero_le _⟩) ?_
          refine lv_aload_n hx hb dX12_expected_50 rfl (lv_at hl 0 rfl) ?_
          refine lv_iload_n hx hb dX12_expected_51 rfl (lv_at hl 1 rfl) ?_
          refine lv_iload_n hx hb dX12_expected_52 rfl (lv_at hl 3 rfl) ?_
          have h8 : kX12_timeFrom m a1 a3 := hok
          refine gro_i (va_runV (As := [.int a1, .int a3]) (rest := [.int (pX12_timeFrom m a1 a2), .ref (q 0)]) ⟨hx, hb, hml, hown, hts⟩ (mX12_timeFrom l dC dI cI cB cO cL q m a1 a3  h8) (cwV 2 hts gX12_expected_X12_timeFrom rfl rfl rfl (by decide +kernel) ⟨Nat.le_of_ble_eq_true rfl, Nat.le_of_ble_eq_true rfl⟩) ⟨gP_blind, va_recv hK hP (ci := 9) (q0 := 0) rfl rfl, gP_ok hP hK⟩ rfl rfl hl.1 rfl (lv_room (Nat.le_of_ble_eq_true rfl)) dX12_expected_53 ⟨Nat.zero_le _, Nat.zero_le _⟩) ?_
          refine lv_isub hx hb dX12_expected_56 ?_
          refine gms_i (va_runV (As := [.int ((pX12_timeFrom m a1 a2) - (pX12_timeFrom m a1 a3))]) (rest := []) ⟨hx, hb, hml, hown, hts⟩ (mX12_tells l dC dI cI cB cO cL q m ((pX12_timeFrom m a1 a2) - (pX12_timeFrom m a1 a3)) (gD_any hD) ) (cwV 1 hts gX12_expected_X12_tells rfl rfl rfl (by decide +kernel) ⟨Nat.le_of_ble_eq_true rfl, Nat.le_of_ble_eq_true rfl⟩) ⟨gP_blind, va_recv hK hP (ci := 9) (q0 := 0) rfl rfl, gP_ok hP hK⟩ rfl rfl hl.1 rfl (lv_room (Nat.le_of_ble_eq_true rfl)) dX12_expected_57 ⟨Nat.zero_le _, Nat.zero_le _⟩) hP (gD_va hD rfl) hS (fun r9 u10 H locs hw hP hS => ?_)
          have hP : va_P (dC, dI) vwCl (mw q cI u10) H := hP
          have hf := bd_eq hw hf
          exact e_mi C0 (hf.symm.trans hF) hP hS dX12_expected_60
        · have hf := it_eq c6 hf
          refine lv_aload_n hx hb dX12_expected_35 rfl (lv_at hl 0 rfl) ?_
          refine lv_iconst (v := 2) hx hb dX12_expected_36 (by decide) ?_
          refine gms_i (va_runV (As := [.int 2]) (rest := []) ⟨hx, hb, hml, hown, hts⟩ (mX12_fails l dC dI cI cB cO cL q m 2 (gD_any hD) ) (cwV 1 hts gX12_expected_X12_fails rfl rfl rfl (by decide +kernel) ⟨Nat.le_of_ble_eq_true rfl, Nat.le_of_ble_eq_true rfl⟩) ⟨gP_blind, va_recv hK hP (ci := 9) (q0 := 0) rfl rfl, gP_ok hP hK⟩ rfl rfl hl.1 rfl (lv_room (Nat.le_of_ble_eq_true rfl)) dX12_expected_37 ⟨Nat.zero_le _, Nat.zero_le _⟩) hP (gD_va hD rfl) hS (fun r11 u12 H locs hw hP hS => ?_)
          have hP : va_P (dC, dI) vwCl (mw q cI u12) H := hP
          have hf := bd_eq hw hf
          refine lv_goto (tgt := 60) hx hb dX12_expected_40 (by decide) ?_
          exact e_mi C0 (hf.symm.trans hF) hP hS dX12_expected_60
      · have c5 := bz_f c5
        have hf := ie_eq c5 hf
        exact J_24 m _ _ hP hS _ (lv_sub hl [0] rfl) hf
noncomputable def pX12_votes (m : MS) (a1 : Int32) : Int32 × MS := if (pX12_isCell m a1) = true then (lt (pX12_votesAt m a1 (-1000000000)) fun (u4 : MS) => bd (pX12_tells u4 ((u4.2.2 9) a1.toNatClampNeg)) fun (r5 : Int32) (u6 : MS) => (r5, u6)) else (bd (pX12_fails m 1) fun (r8 : Int32) (u9 : MS) => (r8, u9))
def kX12_votes (m : MS) (a1 : Int32) : Prop := if (pX12_isCell m a1) = true then ((kX12_votesAt m a1 (-1000000000)) ∧ (lt (pX12_votesAt m a1 (-1000000000)) fun (u4 : MS) => vp_in a1 400)) else (True)
abbrev rX12_votes : Room := { frames := 4, cells := 0, slots := 0, locals := 95 }
set_option maxHeartbeats 4000000 in
set_option maxRecDepth 100000 in
theorem mX12_votes (l : Launch) (dC : Nat → ClassId) (dI : Nat → Nat → Nat) (cI cB cO cL : ClassId) (q : Nat → Nat) (m : MS) (a1 : Int32) (hI : gD (fun _ => True) (mAd q)) (hok : kX12_votes m a1) : Met l yX12_votes wsX12_votes rX12_votes (gP (dC, dI) (tYS cI cB cO cL) (mw q cI m) [.ref (q 0), .int a1]) (gQi (dC, dI) (fun m9 => mw q cI m9) (wA (mw q cI m)) (pX12_votes m a1)) 0 0 (wA (mw q cI m)) := by
  refine gMet (cc := cX12_votes) (maxL := 2) (ret := some .int) [(0, .ref (q 0)), (1, .int a1)] (by decide) rfl rfl rfl ?_
  intro p e s mi below meth c C0 hK hP ls hl
  obtain ⟨hx, hb, hr, hml, hown, hts, hlocks⟩ := id C0
  have hown : s.vm.findClass RX12 = some mi.cls := hown
  have hS : va_S (wA (mw q cI m)) s.heap s.heap [] := va_S.rf
  have hD : gD (wA (mw q cI m)) (mAd q) := gD_wA (ws := mw q cI m) hI
  have hP : va_P (dC, dI) vwCl (mw q cI m) s.heap := hP
  obtain ⟨F, hF⟩ : ∃ F, F = pX12_votes m a1 := ⟨_, rfl⟩
  have hf := hF
  have hin12 : ∀ w ∈ u_ws RX12 TX12 23, w ∈ wsX12_votes := by decide +kernel
  have cn71 := hts (.constant RX12 71 (-1000000000)) (by decide +kernel)
  have fl37 := hts (.fieldLink RX12 37 "ClickBenchModel" "voteMany" "[I") (by decide +kernel)
  refine lv_aload_n hx hb dX12_votes_0 rfl (lv_at hl 0 rfl) ?_
  refine lv_iload_n hx hb dX12_votes_1 rfl (lv_at hl 1 rfl) ?_
  refine gro_i (va_runV (As := [.int a1]) (rest := []) ⟨hx, hb, hml, hown, hts⟩ (mX12_isCell l dC dI cI cB cO cL q m a1  ) (cwV 1 hts gX12_votes_X12_isCell rfl rfl rfl (by decide +kernel) ⟨Nat.le_of_ble_eq_true rfl, Nat.le_of_ble_eq_true rfl⟩) ⟨gP_blind, va_recv hK hP (ci := 9) (q0 := 0) rfl rfl, gP_ok hP hK⟩ rfl rfl hl.1 rfl (lv_room (Nat.le_of_ble_eq_true rfl)) dX12_votes_2 ⟨Nat.zero_le _, Nat.zero_le _⟩) ?_
  refine lv_if_ne (tgt := 14) hx hb dX12_votes_5 (by decide) (fun c1 => ?_) (fun c1 => ?_)
  · have c1 := bz_t c1
    have hf := it_eq c1 hf
    have hok := it_ok c1 hok
    refine lv_aload_n hx hb dX12_votes_14 rfl (lv_at hl 0 rfl) ?_
    refine lv_iload_n hx hb dX12_votes_15 rfl (lv_at hl 1 rfl) ?_
    refine lv_ldc (v := (-1000000000)) hx hb hown cn71 dX12_votes_16 ?_
    obtain ⟨h2, hok⟩ := hok
    refine gms_v (va_runV (As := [.int a1, .int (-1000000000)]) (rest := []) ⟨hx, hb, hml, hown, hts⟩ (mX12_votesAt l dC dI cI cB cO cL q m a1 (-1000000000) (gD_any hD) h2) (cwV 2 hts gX12_votes_X12_votesAt rfl rfl rfl (by decide +kernel) ⟨Nat.le_of_ble_eq_true rfl, Nat.le_of_ble_eq_true rfl⟩) ⟨gP_blind, va_recv hK hP (ci := 9) (q0 := 0) rfl rfl, gP_ok hP hK⟩ rfl rfl hl.1 rfl (lv_room (Nat.le_of_ble_eq_true rfl)) dX12_votes_18 ⟨Nat.zero_le _, Nat.zero_le _⟩) hP (gD_va hD rfl) hS (fun u4 H locs hw hP hS => ?_)
    have hP : va_P (dC, dI) vwCl (mw q cI u4) H := hP
    have hf := lt_eq hw hf
    have hok := lt_ok hw hok
    refine lv_aload_n hx hb dX12_votes_21 rfl (lv_at hl 0 rfl) ?_
    refine lv_aload_n hx hb dX12_votes_22 rfl (lv_at hl 0 rfl) ?_
    refine va_get (D := (dC, dI)) (ci := 9) (v := .ref (q 10)) (C := RX12) (T := TX12) (N := 23) hx hb hts hin12 hown hK hP 0 rfl rfl 15 (by decide) fl37 (fun _ h9 => h9) rfl dX12_votes_23 ?_
    refine lv_iload_n hx hb dX12_votes_26 rfl (lv_at hl 1 rfl) ?_
    have h7 : vp_in a1 400 := hok
    refine va_iald (D := (dC, dI)) (tys := (tYS cI cB cO cL)) hx hb hK hP 10 0 rfl rfl h7 dX12_votes_27 ?_
    refine gms_i (va_runV (As := [.int ((u4.2.2 9) a1.toNatClampNeg)]) (rest := []) ⟨hx, hb, hml, hown, hts⟩ (mX12_tells l dC dI cI cB cO cL q u4 ((u4.2.2 9) a1.toNatClampNeg) (gD_any hD) ) (cwV 1 hts gX12_votes_X12_tells rfl rfl rfl (by decide +kernel) ⟨Nat.le_of_ble_eq_true rfl, Nat.le_of_ble_eq_true rfl⟩) ⟨gP_blind, va_recv hK hP (ci := 9) (q0 := 0) rfl rfl, gP_ok hP hK⟩ rfl rfl hl.1 rfl (lv_room (Nat.le_of_ble_eq_true rfl)) dX12_votes_28 ⟨Nat.zero_le _, Nat.zero_le _⟩) hP (gD_va hD rfl) hS (fun r5 u6 H locs hw hP hS => ?_)
    have hP : va_P (dC, dI) vwCl (mw q cI u6) H := hP
    have hf := bd_eq hw hf
    exact e_mi C0 (hf.symm.trans hF) hP hS dX12_votes_31
  · have c1 := bz_f c1
    have hf := ie_eq c1 hf
    refine lv_aload_n hx hb dX12_votes_8 rfl (lv_at hl 0 rfl) ?_
    refine lv_iconst (v := 1) hx hb dX12_votes_9 (by decide) ?_
    refine gms_i (va_runV (As := [.int 1]) (rest := []) ⟨hx, hb, hml, hown, hts⟩ (mX12_fails l dC dI cI cB cO cL q m 1 (gD_any hD) ) (cwV 1 hts gX12_votes_X12_fails rfl rfl rfl (by decide +kernel) ⟨Nat.le_of_ble_eq_true rfl, Nat.le_of_ble_eq_true rfl⟩) ⟨gP_blind, va_recv hK hP (ci := 9) (q0 := 0) rfl rfl, gP_ok hP hK⟩ rfl rfl hl.1 rfl (lv_room (Nat.le_of_ble_eq_true rfl)) dX12_votes_10 ⟨Nat.zero_le _, Nat.zero_le _⟩) hP (gD_va hD rfl) hS (fun r8 u9 H locs hw hP hS => ?_)
    have hP : va_P (dC, dI) vwCl (mw q cI u9) H := hP
    have hf := bd_eq hw hf
    exact e_mi C0 (hf.symm.trans hF) hP hS dX12_votes_13
noncomputable def pX12_error (m : MS) (a1 : Int32) : Int32 × MS := if (pX12_isCell m a1) = true then (lt (pX12_votesAt m a1 (-1000000000)) fun (u4 : MS) => bd (pX12_tells u4 ((u4.2.2 10) a1.toNatClampNeg)) fun (r5 : Int32) (u6 : MS) => (r5, u6)) else (bd (pX12_fails m 1) fun (r8 : Int32) (u9 : MS) => (r8, u9))
def kX12_error (m : MS) (a1 : Int32) : Prop := if (pX12_isCell m a1) = true then ((kX12_votesAt m a1 (-1000000000)) ∧ (lt (pX12_votesAt m a1 (-1000000000)) fun (u4 : MS) => vp_in a1 400)) else (True)
abbrev rX12_error : Room := { frames := 4, cells := 0, slots := 0, locals := 95 }
set_option maxHeartbeats 4000000 in
set_option maxRecDepth 100000 in
theorem mX12_error (l : Launch) (dC : Nat → ClassId) (dI : Nat → Nat → Nat) (cI cB cO cL : ClassId) (q : Nat → Nat) (m : MS) (a1 : Int32) (hI : gD (fun _ => True) (mAd q)) (hok : kX12_error m a1) : Met l yX12_error wsX12_error rX12_error (gP (dC, dI) (tYS cI cB cO cL) (mw q cI m) [.ref (q 0), .int a1]) (gQi (dC, dI) (fun m9 => mw q cI m9) (wA (mw q cI m)) (pX12_error m a1)) 0 0 (wA (mw q cI m)) := by
  refine gMet (cc := cX12_error) (maxL := 2) (ret := some .int) [(0, .ref (q 0)), (1, .int a1)] (by decide) rfl rfl rfl ?_
  intro p e s mi below meth c C0 hK hP ls hl
  obtain ⟨hx, hb, hr, hml, hown, hts, hlocks⟩ := id C0
  have hown : s.vm.findClass RX12 = some mi.cls := hown
  have hS : va_S (wA (mw q cI m)) s.heap s.heap [] := va_S.rf
  have hD : gD (wA (mw q cI m)) (mAd q) := gD_wA (ws := mw q cI m) hI
  have hP : va_P (dC, dI) vwCl (mw q cI m) s.heap := hP
  obtain ⟨F, hF⟩ : ∃ F, F = pX12_error m a1 := ⟨_, rfl⟩
  have hf := hF
  have hin12 : ∀ w ∈ u_ws RX12 TX12 23, w ∈ wsX12_error := by decide +kernel
  have cn71 := hts (.constant RX12 71 (-1000000000)) (by decide +kernel)
  have fl40 := hts (.fieldLink RX12 40 "ClickBenchModel" "errors" "[I") (by decide +kernel)
  refine lv_aload_n hx hb dX12_error_0 rfl (lv_at hl 0 rfl) ?_
  refine lv_iload_n hx hb dX12_error_1 rfl (lv_at hl 1 rfl) ?_
  refine gro_i (va_runV (As := [.int a1]) (rest := []) ⟨hx, hb, hml, hown, hts⟩ (mX12_isCell l dC dI cI cB cO cL q m a1  ) (cwV 1 hts gX12_error_X12_isCell rfl rfl rfl (by decide +kernel) ⟨Nat.le_of_ble_eq_true rfl, Nat.le_of_ble_eq_true rfl⟩) ⟨gP_blind, va_recv hK hP (ci := 9) (q0 := 0) rfl rfl, gP_ok hP hK⟩ rfl rfl hl.1 rfl (lv_room (Nat.le_of_ble_eq_true rfl)) dX12_error_2 ⟨Nat.zero_le _, Nat.zero_le _⟩) ?_
  refine lv_if_ne (tgt := 14) hx hb dX12_error_5 (by decide) (fun c1 => ?_) (fun c1 => ?_)
  · have c1 := bz_t c1
    have hf := it_eq c1 hf
    have hok := it_ok c1 hok
    refine lv_aload_n hx hb dX12_error_14 rfl (lv_at hl 0 rfl) ?_
    refine lv_iload_n hx hb dX12_error_15 rfl (lv_at hl 1 rfl) ?_
    refine lv_ldc (v := (-1000000000)) hx hb hown cn71 dX12_error_16 ?_
    obtain ⟨h2, hok⟩ := hok
    refine gms_v (va_runV (As := [.int a1, .int (-1000000000)]) (rest := []) ⟨hx, hb, hml, hown, hts⟩ (mX12_votesAt l dC dI cI cB cO cL q m a1 (-1000000000) (gD_any hD) h2) (cwV 2 hts gX12_error_X12_votesAt rfl rfl rfl (by decide +kernel) ⟨Nat.le_of_ble_eq_true rfl, Nat.le_of_ble_eq_true rfl⟩) ⟨gP_blind, va_recv hK hP (ci := 9) (q0 := 0) rfl rfl, gP_ok hP hK⟩ rfl rfl hl.1 rfl (lv_room (Nat.le_of_ble_eq_true rfl)) dX12_error_18 ⟨Nat.zero_le _, Nat.zero_le _⟩) hP (gD_va hD rfl) hS (fun u4 H locs hw hP hS => ?_)
    have hP : va_P (dC, dI) vwCl (mw q cI u4) H := hP
    have hf := lt_eq hw hf
    have hok := lt_ok hw hok
    refine lv_aload_n hx hb dX12_error_21 rfl (lv_at hl 0 rfl) ?_
    refine lv_aload_n hx hb dX12_error_22 rfl (lv_at hl 0 rfl) ?_
    refine va_get (D := (dC, dI)) (ci := 9) (v := .ref (q 11)) (C := RX12) (T := TX12) (N := 23) hx hb hts hin12 hown hK hP 0 rfl rfl 16 (by decide) fl40 (fun _ h9 => h9) rfl dX12_error_23 ?_
    refine lv_iload_n hx hb dX12_error_26 rfl (lv_at hl 1 rfl) ?_
    have h7 : vp_in a1 400 := hok
    refine va_iald (D := (dC, dI)) (tys := (tYS cI cB cO cL)) hx hb hK hP 11 0 rfl rfl h7 dX12_error_27 ?_
    refine gms_i (va_runV (As := [.int ((u4.2.2 10) a1.toNatClampNeg)]) (rest := []) ⟨hx, hb, hml, hown, hts⟩ (mX12_tells l dC dI cI cB cO cL q u4 ((u4.2.2 10) a1.toNatClampNeg) (gD_any hD) ) (cwV 1 hts gX12_error_X12_tells rfl rfl rfl (by decide +kernel) ⟨Nat.le_of_ble_eq_true rfl, Nat.le_of_ble_eq_true rfl⟩) ⟨gP_blind, va_recv hK hP (ci := 9) (q0 := 0) rfl rfl, gP_ok hP hK⟩ rfl rfl hl.1 rfl (lv_room (Nat.le_of_ble_eq_true rfl)) dX12_error_28 ⟨Nat.zero_le _, Nat.zero_le _⟩) hP (gD_va hD rfl) hS (fun r5 u6 H locs hw hP hS => ?_)
    have hP : va_P (dC, dI) vwCl (mw q cI u6) H := hP
    have hf := bd_eq hw hf
    exact e_mi C0 (hf.symm.trans hF) hP hS dX12_error_31
  · have c1 := bz_f c1
    have hf := ie_eq c1 hf
    refine lv_aload_n hx hb dX12_error_8 rfl (lv_at hl 0 rfl) ?_
    refine lv_iconst (v := 1) hx hb dX12_error_9 (by decide) ?_
    refine gms_i (va_runV (As := [.int 1]) (rest := []) ⟨hx, hb, hml, hown, hts⟩ (mX12_fails l dC dI cI cB cO cL q m 1 (gD_any hD) ) (cwV 1 hts gX12_error_X12_fails rfl rfl rfl (by decide +kernel) ⟨Nat.le_of_ble_eq_true rfl, Nat.le_of_ble_eq_true rfl⟩) ⟨gP_blind, va_recv hK hP (ci := 9) (q0 := 0) rfl rfl, gP_ok hP hK⟩ rfl rfl hl.1 rfl (lv_room (Nat.le_of_ble_eq_true rfl)) dX12_error_10 ⟨Nat.zero_le _, Nat.zero_le _⟩) hP (gD_va hD rfl) hS (fun r8 u9 H locs hw hP hS => ?_)
    have hP : va_P (dC, dI) vwCl (mw q cI u9) H := hP
    have hf := bd_eq hw hf
    exact e_mi C0 (hf.symm.trans hF) hP hS dX12_error_13
noncomputable def pX12_found (m : MS) : Int32 × MS := bd (pX12_finds m (-1000000000)) fun (r2 : Int32) (u3 : MS) => bd (pX12_tells u3 r2) fun (r4 : Int32) (u5 : MS) => (r4, u5)
def kX12_found (m : MS) : Prop := kX12_finds m (-1000000000)
abbrev rX12_found : Room := { frames := 5, cells := 0, slots := 0, locals := 120 }
set_option maxHeartbeats 4000000 in
set_option maxRecDepth 100000 in
theorem mX12_found (l : Launch) (dC : Nat → ClassId) (dI : Nat → Nat → Nat) (cI cB cO cL : ClassId) (q : Nat → Nat) (m : MS) (hI : gD (fun _ => True) (mAd q)) (hok : kX12_found m) : Met l yX12_found wsX12_found rX12_found (gP (dC, dI) (tYS cI cB cO cL) (mw q cI m) [.ref (q 0)]) (gQi (dC, dI) (fun m9 => mw q cI m9) (wA (mw q cI m)) (pX12_found m)) 0 0 (wA (mw q cI m)) := by
  refine gMet (cc := cX12_found) (maxL := 1) (ret := some .int) [(0, .ref (q 0))] (by decide) rfl rfl rfl ?_
  intro p e s mi below meth c C0 hK hP ls hl
  obtain ⟨hx, hb, hr, hml, hown, hts, hlocks⟩ := id C0
  have hown : s.vm.findClass RX12 = some mi.cls := hown
  have hS : va_S (wA (mw q cI m)) s.heap s.heap [] := va_S.rf
  have hD : gD (wA (mw q cI m)) (mAd q) := gD_wA (ws := mw q cI m) hI
  have hP : va_P (dC, dI) vwCl (mw q cI m) s.heap := hP
  obtain ⟨F, hF⟩ : ∃ F, F = pX12_found m := ⟨_, rfl⟩
  have hf := hF
  have cn71 := hts (.constant RX12 71 (-1000000000)) (by decide +kernel)
  refine lv_aload_n hx hb dX12_found_0 rfl (lv_at hl 0 rfl) ?_
  refine lv_aload_n hx hb dX12_found_1 rfl (lv_at hl 0 rfl) ?_
  refine lv_ldc (v := (-1000000000)) hx hb hown cn71 dX12_found_2 ?_
  have h1 : kX12_finds m (-1000000000) := hok
  refine gms_i (va_runV (As := [.int (-1000000000)]) (rest := [.ref (q 0)]) ⟨hx, hb, hml, hown, hts⟩ (mX12_finds l dC dI cI cB cO cL q m (-1000000000) (gD_any hD) h1) (cwV 1 hts gX12_found_X12_finds rfl rfl rfl (by decide +kernel) ⟨Nat.le_of_ble_eq_true rfl, Nat.le_of_ble_eq_true rfl⟩) ⟨gP_blind, va_recv hK hP (ci := 9) (q0 := 0) rfl rfl, gP_ok hP hK⟩ rfl rfl hl.1 rfl (lv_room (Nat.le_of_ble_eq_true rfl)) dX12_found_4 ⟨Nat.zero_le _, Nat.zero_le _⟩) hP (gD_va hD rfl) hS (fun r2 u3 H locs hw hP hS => ?_)
  have hP : va_P (dC, dI) vwCl (mw q cI u3) H := hP
  have hf := bd_eq hw hf
  refine gms_i (va_runV (As := [.int r2]) (rest := []) ⟨hx, hb, hml, hown, hts⟩ (mX12_tells l dC dI cI cB cO cL q u3 r2 (gD_any hD) ) (cwV 1 hts gX12_found_X12_tells rfl rfl rfl (by decide +kernel) ⟨Nat.le_of_ble_eq_true rfl, Nat.le_of_ble_eq_true rfl⟩) ⟨gP_blind, va_recv hK hP (ci := 9) (q0 := 0) rfl rfl, gP_ok hP hK⟩ rfl rfl hl.1 rfl (lv_room (Nat.le_of_ble_eq_true rfl)) dX12_found_7 ⟨Nat.zero_le _, Nat.zero_le _⟩) hP (gD_va hD rfl) hS (fun r4 u5 H locs hw hP hS => ?_)
  have hP : va_P (dC, dI) vwCl (mw q cI u5) H := hP
  have hf := bd_eq hw hf
  exact e_mi C0 (hf.symm.trans hF) hP hS dX12_found_10
noncomputable def pX12_likes_L48 (m : MS) (q_4 : Int32 → Int32 → Int32 → Int32) (v1_48 : Int32) (v3_48 : Int32) (t0_48 : Int32) (t1_48 : Bool) : Int32 := lt (t0_48 + (bz t1_48)) fun (x4 : Int32) => lt (v3_48 + 1) fun (x5 : Int32) => q_4 v1_48 x4 x5
def kX12_likes_L48 (m : MS) (Q_4 : Int32 → Int32 → Int32 → Prop) (v1_48 : Int32) (v3_48 : Int32) (t0_48 : Int32) (t1_48 : Bool) : Prop := lt (t0_48 + (bz t1_48)) fun (x4 : Int32) => lt (v3_48 + 1) fun (x5 : Int32) => Q_4 v1_48 x4 x5
noncomputable def bX12_likes_L4 (m : MS)  (q_4 : Int32 → Int32 → Int32 → Int32) (v1_4 : Int32) (v2_4 : Int32) (v3_4 : Int32) : Int32 := if (((m.2.2 0) 0) * ((m.2.2 0) 1)) ≤ v3_4 then (v2_4) else (if v1_4 = (-1000000000) then (v2_4) else (if ((m.2.2 9) v3_4.toNatClampNeg) = ((m.2.2 9) v1_4.toNatClampNeg) then (pX12_likes_L48 m q_4 v1_4 v3_4 v2_4 true) else (pX12_likes_L48 m q_4 v1_4 v3_4 v2_4 false)))
noncomputable def pX12_likes_L4 (m : MS)  : Nat → Int32 → Int32 → Int32 → Int32
  | 0 => fun _ _ _ => (0)
  | n + 1 => bX12_likes_L4 m  (pX12_likes_L4 m  n)
def kbX12_likes_L4 (m : MS)  (Q_4 : Int32 → Int32 → Int32 → Prop) (v1_4 : Int32) (v2_4 : Int32) (v3_4 : Int32) : Prop := if (((m.2.2 0) 0) * ((m.2.2 0) 1)) ≤ v3_4 then (True) else (if v1_4 = (-1000000000) then (True) else ((vp_in v3_4 400) ∧ ((vp_in v1_4 400) ∧ (if ((m.2.2 9) v3_4.toNatClampNeg) = ((m.2.2 9) v1_4.toNatClampNeg) then (kX12_likes_L48 m Q_4 v1_4 v3_4 v2_4 true) else (kX12_likes_L48 m Q_4 v1_4 v3_4 v2_4 false)))))
noncomputable def kX12_likes_L4 (m : MS)  : Nat → Int32 → Int32 → Int32 → Prop
  | 0 => fun _ _ _ => False
  | n + 1 => kbX12_likes_L4 m  (kX12_likes_L4 m  n)
noncomputable def pX12_likes (m : MS) (a1 : Int32) : Int32 := pX12_likes_L4 m fu a1 0 0
def kX12_likes (m : MS) (a1 : Int32) : Prop := kX12_likes_L4 m fu a1 0 0
abbrev rX12_likes : Room := { frames := 0, cells := 0, slots := 0, locals := 0 }
set_option maxHeartbeats 4000000 in
set_option maxRecDepth 100000 in
theorem mX12_likes (l : Launch) (dC : Nat → ClassId) (dI : Nat → Nat → Nat) (cI cB cO cL : ClassId) (q : Nat → Nat) (m : MS) (a1 : Int32) (hok : kX12_likes m a1) : Met l yX12_likes wsX12_likes rX12_likes (gP (dC, dI) (tYS cI cB cO cL) (mw q cI m) [.ref (q 0), .int a1]) (gRi (pX12_likes m a1)) 0 0 (fun _ => False) := by
  refine gMet (cc := cX12_likes) (maxL := 4) (ret := some .int) [(0, .ref (q 0)), (1, .int a1)] (by decide) rfl rfl rfl ?_
  intro p e s mi below meth c C0 hK hP ls hl
  obtain ⟨hx, hb, hr, hml, hown, hts, hlocks⟩ := id C0
  have hown : s.vm.findClass RX12 = some mi.cls := hown
  obtain ⟨F, hF⟩ : ∃ F, F = pX12_likes m a1 := ⟨_, rfl⟩
  have hf := hF
  have hin12 : ∀ w ∈ u_ws RX12 TX12 23, w ∈ wsX12_likes := by decide +kernel
  have fl7 := hts (.fieldLink RX12 7 "ClickBenchModel" "s" "[I") (by decide +kernel)
  have cn71 := hts (.constant RX12 71 (-1000000000)) (by decide +kernel)
  have fl37 := hts (.fieldLink RX12 37 "ClickBenchModel" "voteMany" "[I") (by decide +kernel)
  have J_4 : ∀ (n_4 : Nat) (v1_4 : Int32) (v2_4 : Int32) (v3_4 : Int32), ∀ ls : Array Slot, lv_has ls 4 [(0, .ref (q 0)), (1, .int v1_4), (2, .int v2_4), (3, .int v3_4)] → F = pX12_likes_L4 m n_4 v1_4 v2_4 v3_4 → kX12_likes_L4 m n_4 v1_4 v2_4 v3_4 → W p l e rX12_likes s mi ([.ref (q 0), .int a1] : List Value).toArray below meth c s.heap [] 0 0 (MQ below (gRi (pX12_likes m a1)) ([.ref (q 0), .int a1] : List Value).toArray s 0 0 (fun _ => False)) (F0 mi 4 ls []) := by
    intro n_4
    induction n_4 with
    | zero =>
      intro v1_4 v2_4 v3_4 ls hl hf hok
      exact absurd hok (fun h => h)
    | succ n_4 ih_4 =>
      have J_48 : ∀ (v1_48 : Int32) (v3_48 : Int32) (t0_48 : Int32) (t1_48 : Bool), ∀ ls : Array Slot, lv_has ls 4 [(0, .ref (q 0)), (1, .int v1_48), (3, .int v3_48)] → F = pX12_likes_L48 m (pX12_likes_L4 m n_4) v1_48 v3_48 t0_48 t1_48 → kX12_likes_L48 m (kX12_likes_L4 m n_4) v1_48 v3_48 t0_48 t1_48 → W p l e rX12_likes s mi ([.ref (q 0), .int a1] : List Value).toArray below meth c s.heap [] 0 0 (MQ below (gRi (pX12_likes m a1)) ([.ref (q 0), .int a1] : List Value).toArray s 0 0 (fun _ => False)) (F0 mi 48 ls [.int (bz t1_48), .int t0_48]) := by
        intro v1_48 v3_48 t0_48 t1_48 ls hl hf hok
        refine lv_iadd hx hb dX12_likes_48 ?_
        refine lv_topi (fun x4 ex4 => ?_)
        have hf := lt_eq ex4 hf
        have hok := lt_ok ex4 hok
        refine lv_istore_n (lv' := [(2, .int x4), (0, .ref (q 0)), (1, .int v1_48), (3, .int v3_48)]) hx hb dX12_likes_49 rfl hl (by decide) rfl (fun ls hl => ?_)
        obtain ⟨x5, ex5⟩ : ∃ y : Int32, y = v3_48 + 1 := ⟨_, rfl⟩
        refine lv_iinc (v := x5) (lv' := [(3, .int x5), (2, .int x4), (0, .ref (q 0)), (1, .int v1_48)]) hx hb dX12_likes_50 hl (k := 3) rfl (by rw [ex5]; rfl) (by decide) rfl (fun ls hl => ?_)
        have hf := lt_eq ex5 hf
        have hok := lt_ok ex5 hok
        refine lv_goto (tgt := 4) hx hb dX12_likes_53 (by decide) ?_
        exact ih_4 v1_48 x4 x5 _ (lv_sub hl [2, 3, 1, 0] rfl) hf hok
      intro v1_4 v2_4 v3_4 ls hl hf hok
      have hf : F = bX12_likes_L4 m (pX12_likes_L4 m n_4) v1_4 v2_4 v3_4 := hf
      have hok : kbX12_likes_L4 m (kX12_likes_L4 m n_4) v1_4 v2_4 v3_4 := hok
      refine lv_iload_n hx hb dX12_likes_4 rfl (lv_at hl 3 rfl) ?_
      refine lv_aload_n hx hb dX12_likes_5 rfl (lv_at hl 0 rfl) ?_
      refine va_get (D := (dC, dI)) (ci := 9) (v := .ref (q 1)) (C := RX12) (T := TX12) (N := 23) hx hb hts hin12 hown hK hP 0 rfl rfl 0 (by decide) fl7 (fun _ h9 => h9) rfl dX12_likes_6 ?_
      refine lv_iconst (v := 0) hx hb dX12_likes_9 (by decide) ?_
      refine g_ialdK (D := (dC, dI)) (tys := (tYS cI cB cO cL)) (k := 0) hx hb hK hP 1 0 rfl rfl (by decide) (by decide) (by decide) dX12_likes_10 ?_
      refine lv_aload_n hx hb dX12_likes_11 rfl (lv_at hl 0 rfl) ?_
      refine va_get (D := (dC, dI)) (ci := 9) (v := .ref (q 1)) (C := RX12) (T := TX12) (N := 23) hx hb hts hin12 hown hK hP 0 rfl rfl 0 (by decide) fl7 (fun _ h9 => h9) rfl dX12_likes_12 ?_
      refine lv_iconst (v := 1) hx hb dX12_likes_15 (by decide) ?_
      refine g_ialdK (D := (dC, dI)) (tys := (tYS cI cB cO cL)) (k := 1) hx hb hK hP 1 0 rfl rfl (by decide) (by decide) (by decide) dX12_likes_16 ?_
      refine lv_imul hx hb dX12_likes_17 ?_
      refine lv_icmp_ge (tgt := 56) hx hb dX12_likes_18 (by decide) (fun c1 => ?_) (fun c1 => ?_)
      · have hf := it_eq c1 hf
        refine lv_iload_n hx hb dX12_likes_56 rfl (lv_at hl 2 rfl) ?_
        exact e_ri C0 (hf.symm.trans hF) dX12_likes_57
      · have hf := ie_eq c1 hf
        have hok := ie_ok c1 hok
        refine lv_iload_n hx hb dX12_likes_21 rfl (lv_at hl 1 rfl) ?_
        refine lv_ldc (v := (-1000000000)) hx hb hown cn71 dX12_likes_22 ?_
        refine lv_icmp_eq (tgt := 56) hx hb dX12_likes_24 (by decide) (fun c2 => ?_) (fun c2 => ?_)
        · have hf := it_eq c2 hf
          refine lv_iload_n hx hb dX12_likes_56 rfl (lv_at hl 2 rfl) ?_
          exact e_ri C0 (hf.symm.trans hF) dX12_likes_57
        · have hf := ie_eq c2 hf
          have hok := ie_ok c2 hok
          refine lv_iload_n hx hb dX12_likes_27 rfl (lv_at hl 2 rfl) ?_
          refine lv_aload_n hx hb dX12_likes_28 rfl (lv_at hl 0 rfl) ?_
          refine va_get (D := (dC, dI)) (ci := 9) (v := .ref (q 10)) (C := RX12) (T := TX12) (N := 23) hx hb hts hin12 hown hK hP 0 rfl rfl 15 (by decide) fl37 (fun _ h9 => h9) rfl dX12_likes_29 ?_
          refine lv_iload_n hx hb dX12_likes_32 rfl (lv_at hl 3 rfl) ?_
          obtain ⟨h7, hok⟩ := hok
          refine va_iald (D := (dC, dI)) (tys := (tYS cI cB cO cL)) hx hb hK hP 10 0 rfl rfl h7 dX12_likes_33 ?_
          refine lv_aload_n hx hb dX12_likes_34 rfl (lv_at hl 0 rfl) ?_
          refine va_get (D := (dC, dI)) (ci := 9) (v := .ref (q 10)) (C := RX12) (T := TX12) (N := 23) hx hb hts hin12 hown hK hP 0 rfl rfl 15 (by decide) fl37 (fun _ h9 => h9) rfl dX12_likes_35 ?_
          refine lv_iload_n hx hb dX12_likes_38 rfl (lv_at hl 1 rfl) ?_
          obtain ⟨h6, hok⟩ := hok
          refine va_iald (D := (dC, dI)) (tys := (tYS cI cB cO cL)) hx hb hK hP 10 0 rfl rfl h6 dX12_likes_39 ?_
          refine lv_icmp_ne (tgt := 47) hx hb dX12_likes_40 (by decide) (fun c3 => ?_) (fun c3 => ?_)
          · have hf := ie_eq c3 hf
            have hok := ie_ok c3 hok
            refine lv_iconst (v := 0) hx hb dX12_likes_47 (by decide) ?_
            exact J_48 v1_4 v3_4 v2_4 false _ (lv_sub hl [0, 1, 3] rfl) hf hok
          · have hf := it_eq c3 hf
            have hok := it_ok c3 hok
            refine lv_iconst (v := 1) hx hb dX12_likes_43 (by decide) ?_
            refine lv_goto (tgt := 48) hx hb dX12_likes_44 (by decide) ?_
            exact J_48 v1_4 v3_4 v2_4 true _ (lv_sub hl [0, 1, 3] rfl) hf hok
  refine lv_iconst (v := 0) hx hb dX12_likes_0 (by decide) ?_
  refine lv_istore_n (lv' := [(2, .int 0), (0, .ref (q 0)), (1, .int a1)]) hx hb dX12_likes_1 rfl hl (by decide) rfl (fun ls hl => ?_)
  refine lv_iconst (v := 0) hx hb dX12_likes_2 (by decide) ?_
  refine lv_istore_n (lv' := [(3, .int 0), (2, .int 0), (0, .ref (q 0)), (1, .int a1)]) hx hb dX12_likes_3 rfl hl (by decide) rfl (fun ls hl => ?_)
  exact J_4 fu a1 0 0 _ (lv_sub hl [2, 3, 1, 0] rfl) hf hok
noncomputable def pX12_middle_L95  (q_27 : Bool → Int32 → Int32 → Int32 → MS → (UInt64 × MS)) (v1_95 : Bool) (v2_95 : Int32) (v4_95 : Int32) (t0_95 : Int32) (t1_95 : Int32) (m_95 : MS) : UInt64 × MS := lt (t0_95 + t1_95) fun (x12 : Int32) => lt (v4_95 + 1) fun (x13 : Int32) => q_27 v1_95 v2_95 x12 x13 m_95
def kX12_middle_L95  (Q_27 : Bool → Int32 → Int32 → Int32 → MS → Prop) (v1_95 : Bool) (v2_95 : Int32) (v4_95 : Int32) (t0_95 : Int32) (t1_95 : Int32) (m_95 : MS) : Prop := lt (t0_95 + t1_95) fun (x12 : Int32) => lt (v4_95 + 1) fun (x13 : Int32) => Q_27 v1_95 v2_95 x12 x13 m_95
noncomputable def pX12_middle_L70  (q_27 : Bool → Int32 → Int32 → Int32 → MS → (UInt64 × MS)) (v1_70 : Bool) (v2_70 : Int32) (v3_70 : Int32) (v4_70 : Int32) (t0_70 : Int32) (m_70 : MS) : UInt64 × MS := if ((m_70.2.2 9) v4_70.toNatClampNeg) = ((m_70.2.2 9) v2_70.toNatClampNeg) then (pX12_middle_L95 q_27 v1_70 v2_70 v4_70 v3_70 t0_70 m_70) else (pX12_middle_L95 q_27 v1_70 v2_70 v4_70 v3_70 0 m_70)
def kX12_middle_L70  (Q_27 : Bool → Int32 → Int32 → Int32 → MS → Prop) (v1_70 : Bool) (v2_70 : Int32) (v3_70 : Int32) (v4_70 : Int32) (t0_70 : Int32) (m_70 : MS) : Prop := (vp_in v4_70 400) ∧ ((vp_in v2_70 400) ∧ (if ((m_70.2.2 9) v4_70.toNatClampNeg) = ((m_70.2.2 9) v2_70.toNatClampNeg) then (kX12_middle_L95 Q_27 v1_70 v2_70 v4_70 v3_70 t0_70 m_70) else (kX12_middle_L95 Q_27 v1_70 v2_70 v4_70 v3_70 0 m_70)))
noncomputable def bX12_middle_L27   (q_27 : Bool → Int32 → Int32 → Int32 → MS → (UInt64 × MS)) (v1_27 : Bool) (v2_27 : Int32) (v3_27 : Int32) (v4_27 : Int32) (m_27 : MS) : UInt64 × MS := if (((m_27.2.2 0) 0) * ((m_27.2.2 0) 1)) ≤ v4_27 then ((FP.ddiv (FP.i2d v3_27) (FP.i2d (pX12_likes m_27 v2_27)), m_27)) else (if v1_27 = true then (pX12_middle_L70 q_27 v1_27 v2_27 v3_27 v4_27 (v4_27 / ((m_27.2.2 0) 0)) m_27) else (pX12_middle_L70 q_27 v1_27 v2_27 v3_27 v4_27 (v4_27 - v4_27 / ((m_27.2.2 0) 0) * ((m_27.2.2 0) 0)) m_27))
noncomputable def pX12_middle_L27   : Nat → Bool → Int32 → Int32 → Int32 → MS → (UInt64 × MS)
  | 0 => fun _ _ _ _ m_27 => (0, m_27)
  | n + 1 => bX12_middle_L27   (pX12_middle_L27   n)
def kbX12_middle_L27   (Q_27 : Bool → Int32 → Int32 → Int32 → MS → Prop) (v1_27 : Bool) (v2_27 : Int32) (v3_27 : Int32) (v4_27 : Int32) (m_27 : MS) : Prop := if (((m_27.2.2 0) 0) * ((m_27.2.2 0) 1)) ≤ v4_27 then ((kX12_likes m_27 v2_27) ∧ (vf_n64 (FP.ddiv (FP.i2d v3_27) (FP.i2d (pX12_likes m_27 v2_27))))) else (if v1_27 = true then ((¬ ((m_27.2.2 0) 0) = 0) ∧ (kX12_middle_L70 Q_27 v1_27 v2_27 v3_27 v4_27 (v4_27 / ((m_27.2.2 0) 0)) m_27)) else ((¬ ((m_27.2.2 0) 0) = 0) ∧ (kX12_middle_L70 Q_27 v1_27 v2_27 v3_27 v4_27 (v4_27 - v4_27 / ((m_27.2.2 0) 0) * ((m_27.2.2 0) 0)) m_27)))
noncomputable def kX12_middle_L27   : Nat → Bool → Int32 → Int32 → Int32 → MS → Prop
  | 0 => fun _ _ _ _ _ => False
  | n + 1 => kbX12_middle_L27   (kX12_middle_L27   n)
noncomputable def pX12_middle (m : MS) (a1 : Bool) : UInt64 × MS := lt (msi m 3 0) fun (m_1 : MS) => bd (pX12_finds m_1 (-1000000000)) fun (r3 : Int32) (u4 : MS) => if r3 = (-1000000000) then ((13830554455654793216, u4)) else (pX12_middle_L27 fu a1 r3 0 0 u4)
def kX12_middle (m : MS) (a1 : Bool) : Prop := lt (msi m 3 0) fun (m_1 : MS) => (kX12_finds m_1 (-1000000000)) ∧ (bd (pX12_finds m_1 (-1000000000)) fun (r3 : Int32) (u4 : MS) => if r3 = (-1000000000) then (True) else (kX12_middle_L27 fu a1 r3 0 0 u4))
abbrev rX12_middle : Room := { frames := 5, cells := 0, slots := 0, locals := 120 }
set_option maxHeartbeats 4000000 in
set_option maxRecDepth 100000 in
theorem mX12_middle (l : Launch) (dC : Nat → ClassId) (dI : Nat → Nat → Nat) (cI cB cO cL : ClassId) (q : Nat → Nat) (m : MS) (a1 : Bool) (hI : gD (fun _ => True) (mAd q)) (hok : kX12_middle m a1) : Met l yX12_middle wsX12_middle rX12_middle (gP (dC, dI) (tYS cI cB cO cL) (mw q cI m) [.ref (q 0), .int (bz a1)]) (gQd (dC, dI) (fun m9 => mw q cI m9) (wA (mw q cI m)) (pX12_middle m a1)) 0 0 (wA (mw q cI m)) := by
  refine gMet (cc := cX12_middle) (maxL := 6) (ret := some .double) [(0, .ref (q 0)), (1, .int (bz a1))] (by decide) rfl rfl rfl ?_
  intro p e s mi below meth c C0 hK hP ls hl
  obtain ⟨hx, hb, hr, hml, hown, hts, hlocks⟩ := id C0
  have hown : s.vm.findClass RX12 = some mi.cls := hown
  have hS : va_S (wA (mw q cI m)) s.heap s.heap [] := va_S.rf
  have hD : gD (wA (mw q cI m)) (mAd q) := gD_wA (ws := mw q cI m) hI
  have hP : va_P (dC, dI) vwCl (mw q cI m) s.heap := hP
  obtain ⟨F, hF⟩ : ∃ F, F = pX12_middle m a1 := ⟨_, rfl⟩
  have hf := hF
  have hin12 : ∀ w ∈ u_ws RX12 TX12 23, w ∈ wsX12_middle := by decide +kernel
  have fl49 := hts (.fieldLink RX12 49 "ClickBenchModel" "thrown" "I") (by decide +kernel)
  have cn71 := hts (.constant RX12 71 (-1000000000)) (by decide +kernel)
  have fl7 := hts (.fieldLink RX12 7 "ClickBenchModel" "s" "[I") (by decide +kernel)
  have fl37 := hts (.fieldLink RX12 37 "ClickBenchModel" "voteMany" "[I") (by decide +kernel)
  have cn215 := hts (.constantDouble RX12 215 (13830554455654793216)) (by decide +kernel)
  have J_27 : ∀ (n_27 : Nat) (v1_27 : Bool) (v2_27 : Int32) (v3_27 : Int32) (v4_27 : Int32) (m_27 : MS) (H : Heap) (locs : List Loc), va_P (dC, dI) vwCl (mw q cI m_27) H → va_S (wA (mw q cI m)) s.heap H locs → ∀ ls : Array Slot, lv_has ls 6 [(0, .ref (q 0)), (1, .int (bz v1_27)), (2, .int v2_27), (3, .int v3_27), (4, .int v4_27)] → F = pX12_middle_L27 n_27 v1_27 v2_27 v3_27 v4_27 m_27 → kX12_middle_L27 n_27 v1_27 v2_27 v3_27 v4_27 m_27 → W p l e rX12_middle s mi ([.ref (q 0), .int (bz a1)] : List Value).toArray below meth c H locs 0 0 (MQ below (gQd (dC, dI) (fun m9 => mw q cI m9) (wA (mw q cI m)) (pX12_middle m a1)) ([.ref (q 0), .int (bz a1)] : List Value).toArray s 0 0 (wA (mw q cI m))) (F0 mi 27 ls []) := by
    intro n_27
    induction n_27 with
    | zero =>
      intro v1_27 v2_27 v3_27 v4_27 m_27 H locs hP hS ls hl hf hok
      exact absurd hok (fun h => h)
    | succ n_27 ih_27 =>
      have J_95 : ∀ (v1_95 : Bool) (v2_95 : Int32) (v4_95 : Int32) (t0_95 : Int32) (t1_95 : Int32) (m_95 : MS) (H : Heap) (locs : List Loc), va_P (dC, dI) vwCl (mw q cI m_95) H → va_S (wA (mw q cI m)) s.heap H locs → ∀ ls : Array Slot, lv_has ls 6 [(0, .ref (q 0)), (1, .int (bz v1_95)), (2, .int v2_95), (4, .int v4_95)] → F = pX12_middle_L95 (pX12_middle_L27 n_27) v1_95 v2_95 v4_95 t0_95 t1_95 m_95 → kX12_middle_L95 (kX12_middle_L27 n_27) v1_95 v2_95 v4_95 t0_95 t1_95 m_95 → W p l e rX12_middle s mi ([.ref (q 0), .int (bz a1)] : List Value).toArray below meth c H locs 0 0 (MQ below (gQd (dC, dI) (fun m9 => mw q cI m9) (wA (mw q cI m)) (pX12_middle m a1)) ([.ref (q 0), .int (bz a1)] : List Value).toArray s 0 0 (wA (mw q cI m))) (F0 mi 95 ls [.int t1_95, .int t0_95]) := by
        intro v1_95 v2_95 v4_95 t0_95 t1_95 m_95 H locs hP hS ls hl hf hok
        refine lv_iadd hx hb dX12_middle_95 ?_
        refine lv_topi (fun x12 ex12 => ?_)
        have hf := lt_eq ex12 hf
        have hok := lt_ok ex12 hok
        refine lv_istore_n (lv' := [(3, .int x12), (0, .ref (q 0)), (1, .int (bz v1_95)), (2, .int v2_95), (4, .int v4_95)]) hx hb dX12_middle_96 rfl hl (by decide) rfl (fun ls hl => ?_)
        obtain ⟨x13, ex13⟩ : ∃ y : Int32, y = v4_95 + 1 := ⟨_, rfl⟩
        refine lv_iinc (v := x13) (lv' := [(4, .int x13), (3, .int x12), (0, .ref (q 0)), (1, .int (bz v1_95)), (2, .int v2_95)]) hx hb dX12_middle_97 hl (k := 4) rfl (by rw [ex13]; rfl) (by decide) rfl (fun ls hl => ?_)
        have hf := lt_eq ex13 hf
        have hok := lt_ok ex13 hok
        refine lv_goto (tgt := 27) hx hb dX12_middle_100 (by decide) ?_
        exact ih_27 v1_95 v2_95 x12 x13 m_95 _ _ hP hS _ (lv_sub hl [2, 3, 4, 1, 0] rfl) hf hok
      have J_70 : ∀ (v1_70 : Bool) (v2_70 : Int32) (v3_70 : Int32) (v4_70 : Int32) (t0_70 : Int32) (m_70 : MS) (H : Heap) (locs : List Loc), va_P (dC, dI) vwCl (mw q cI m_70) H → va_S (wA (mw q cI m)) s.heap H locs → ∀ ls : Array Slot, lv_has ls 6 [(0, .ref (q 0)), (1, .int (bz v1_70)), (2, .int v2_70), (3, .int v3_70), (4, .int v4_70)] → F = pX12_middle_L70 (pX12_middle_L27 n_27) v1_70 v2_70 v3_70 v4_70 t0_70 m_70 → kX12_middle_L70 (kX12_middle_L27 n_27) v1_70 v2_70 v3_70 v4_70 t0_70 m_70 → W p l e rX12_middle s mi ([.ref (q 0), .int (bz a1)] : List Value).toArray below meth c H locs 0 0 (MQ below (gQd (dC, dI) (fun m9 => mw q cI m9) (wA (mw q cI m)) (pX12_middle m a1)) ([.ref (q 0), .int (bz a1)] : List Value).toArray s 0 0 (wA (mw q cI m))) (F0 mi 70 ls [.int t0_70]) := by
        intro v1_70 v2_70 v3_70 v4_70 t0_70 m_70 H locs hP hS ls hl hf hok
        refine lv_istore (lv' := [(5, .int t0_70), (0, .ref (q 0)), (1, .int (bz v1_70)), (2, .int v2_70), (3, .int v3_70), (4, .int v4_70)]) hx hb dX12_middle_70 hl (by decide) rfl (fun ls hl => ?_)
        refine lv_iload_n hx hb dX12_middle_72 rfl (lv_at hl 4 rfl) ?_
        refine lv_aload_n hx hb dX12_middle_73 rfl (lv_at hl 1 rfl) ?_
        refine va_get (D := (dC, dI)) (ci := 9) (v := .ref (q 10)) (C := RX12) (T := TX12) (N := 23) hx hb hts hin12 hown hK hP 0 rfl rfl 15 (by decide) fl37 (fun _ h9 => h9) rfl dX12_middle_74 ?_
        refine lv_iload hx hb dX12_middle_77 (lv_at hl 5 rfl) ?_
        obtain ⟨h15, hok⟩ := hok
        refine va_iald (D := (dC, dI)) (tys := (tYS cI cB cO cL)) hx hb hK hP 10 0 rfl rfl h15 dX12_middle_79 ?_
        refine lv_aload_n hx hb dX12_middle_80 rfl (lv_at hl 1 rfl) ?_
        refine va_get (D := (dC, dI)) (ci := 9) (v := .ref (q 10)) (C := RX12) (T := TX12) (N := 23) hx hb hts hin12 hown hK hP 0 rfl rfl 15 (by decide) fl37 (fun _ h9 => h9) rfl dX12_middle_81 ?_
        refine lv_iload_n hx hb dX12_middle_84 rfl (lv_at hl 3 rfl) ?_
        obtain ⟨h14, hok⟩ := hok
        refine va_iald (D := (dC, dI)) (tys := (tYS cI cB cO cL)) hx hb hK hP 10 0 rfl rfl h14 dX12_middle_85 ?_
        refine lv_icmp_ne (tgt := 94) hx hb dX12_middle_86 (by decide) (fun c11 => ?_) (fun c11 => ?_)
        · have hf := ie_eq c11 hf
          have hok := ie_ok c11 hok
          refine lv_iconst (v := 0) hx hb dX12_middle_94 (by decide) ?_
          exact J_95 v1_70 v2_70 v4_70 v3_70 0 m_70 _ _ hP hS _ (lv_sub hl [1, 2, 3, 5] rfl) hf hok
        · have hf := it_eq c11 hf
          have hok := it_ok c11 hok
          refine lv_iload hx hb dX12_middle_89 (lv_at hl 0 rfl) ?_
          refine lv_goto (tgt := 95) hx hb dX12_middle_91 (by decide) ?_
          exact J_95 v1_70 v2_70 v4_70 v3_70 t0_70 m_70 _ _ hP hS _ (lv_sub hl [1, 2, 3, 5] rfl) hf hok
      intro v1_27 v2_27 v3_27 v4_27 m_27 H locs hP hS ls hl hf hok
      have hf : F = bX12_middle_L27 (pX12_middle_L27 n_27) v1_27 v2_27 v3_27 v4_27 m_27 := hf
      have hok : kbX12_middle_L27 (kX12_middle_L27 n_27) v1_27 v2_27 v3_27 v4_27 m_27 := hok
      refine lv_iload hx hb dX12_middle_27 (lv_at hl 4 rfl) ?_
      refine lv_aload_n hx hb dX12_middle_29 rfl (lv_at hl 0 rfl) ?_
      refine va_get (D := (dC, dI)) (ci := 9) (v := .ref (q 1)) (C := RX12) (T := TX12) (N := 23) hx hb hts hin12 hown hK hP 0 rfl rfl 0 (by decide) fl7 (fun _ h9 => h9) rfl dX12_middle_30 ?_
      refine lv_iconst (v := 0) hx hb dX12_middle_33 (by decide) ?_
      refine g_ialdK (D := (dC, dI)) (tys := (tYS cI cB cO cL)) (k := 0) hx hb hK hP 1 0 rfl rfl (by decide) (by decide) (by decide) dX12_middle_34 ?_
      refine lv_aload_n hx hb dX12_middle_35 rfl (lv_at hl 0 rfl) ?_
      refine va_get (D := (dC, dI)) (ci := 9) (v := .ref (q 1)) (C := RX12) (T := TX12) (N := 23) hx hb hts hin12 hown hK hP 0 rfl rfl 0 (by decide) fl7 (fun _ h9 => h9) rfl dX12_middle_36 ?_
      refine lv_iconst (v := 1) hx hb dX12_middle_39 (by decide) ?_
      refine g_ialdK (D := (dC, dI)) (tys := (tYS cI cB cO cL)) (k := 1) hx hb hK hP 1 0 rfl rfl (by decide) (by decide) (by decide) dX12_middle_40 ?_
      refine lv_imul hx hb dX12_middle_41 ?_
      refine lv_icmp_ge (tgt := 103) hx hb dX12_middle_42 (by decide) (fun c6 => ?_) (fun c6 => ?_)
      · have hf := it_eq c6 hf
        have hok := it_ok c6 hok
        refine lv_iload_n hx hb dX12_middle_103 rfl (lv_at hl 3 rfl) ?_
        refine lv_i2d hx hb dX12_middle_104 ?_
        refine lv_aload_n hx hb dX12_middle_105 rfl (lv_at hl 0 rfl) ?_
        refine lv_iload_n hx hb dX12_middle_106 rfl (lv_at hl 2 rfl) ?_
        obtain ⟨h7, hok⟩ := hok
        refine gro_i (va_runV (As := [.int v2_27]) (rest := [.double (FP.i2d v3_27)]) ⟨hx, hb, hml, hown, hts⟩ (mX12_likes l dC dI cI cB cO cL q m_27 v2_27  h7) (cwV 1 hts gX12_middle_X12_likes rfl rfl rfl (by decide +kernel) ⟨Nat.le_of_ble_eq_true rfl, Nat.le_of_ble_eq_true rfl⟩) ⟨gP_blind, va_recv hK hP (ci := 9) (q0 := 0) rfl rfl, gP_ok hP hK⟩ rfl rfl hl.1 rfl (lv_room (Nat.le_of_ble_eq_true rfl)) dX12_middle_107 ⟨Nat.zero_le _, Nat.zero_le _⟩) ?_
        refine lv_i2d hx hb dX12_middle_110 ?_
        have h8 : vf_n64 (FP.ddiv (FP.i2d v3_27) (FP.i2d (pX12_likes m_27 v2_27))) := hok
        refine lv_ddiv hx hb dX12_middle_111 h8 ?_
        exact e_md C0 (hf.symm.trans hF) hP hS dX12_middle_112
      · have hf := ie_eq c6 hf
        have hok := ie_ok c6 hok
        refine lv_iload_n hx hb dX12_middle_45 rfl (lv_at hl 1 rfl) ?_
        refine lv_if_eq (tgt := 61) hx hb dX12_middle_46 (by decide) (fun c9 => ?_) (fun c9 => ?_)
        · have c9 := bz_f c9
          have hf := ie_eq c9 hf
          have hok := ie_ok c9 hok
          refine lv_iload hx hb dX12_middle_61 (lv_at hl 4 rfl) ?_
          refine lv_aload_n hx hb dX12_middle_63 rfl (lv_at hl 0 rfl) ?_
          refine va_get (D := (dC, dI)) (ci := 9) (v := .ref (q 1)) (C := RX12) (T := TX12) (N := 23) hx hb hts hin12 hown hK hP 0 rfl rfl 0 (by decide) fl7 (fun _ h9 => h9) rfl dX12_middle_64 ?_
          refine lv_iconst (v := 0) hx hb dX12_middle_67 (by decide) ?_
          refine g_ialdK (D := (dC, dI)) (tys := (tYS cI cB cO cL)) (k := 0) hx hb hK hP 1 0 rfl rfl (by decide) (by decide) (by decide) dX12_middle_68 ?_
          obtain ⟨h10, hok⟩ := hok
          refine lv_irem hx hb dX12_middle_69 h10 ?_
          exact J_70 v1_27 v2_27 v3_27 v4_27 (v4_27 - v4_27 / ((m_27.2.2 0) 0) * ((m_27.2.2 0) 0)) m_27 _ _ hP hS _ (lv_sub hl [0, 1, 2, 3, 4] rfl) hf hok
        · have c9 := bz_t c9
          have hf := it_eq c9 hf
          have hok := it_ok c9 hok
          refine lv_iload hx hb dX12_middle_49 (lv_at hl 4 rfl) ?_
          refine lv_aload_n hx hb dX12_middle_51 rfl (lv_at hl 0 rfl) ?_
          refine va_get (D := (dC, dI)) (ci := 9) (v := .ref (q 1)) (C := RX12) (T := TX12) (N := 23) hx hb hts hin12 hown hK hP 0 rfl rfl 0 (by decide) fl7 (fun _ h9 => h9) rfl dX12_middle_52 ?_
          refine lv_iconst (v := 0) hx hb dX12_middle_55 (by decide) ?_
          refine g_ialdK (D := (dC, dI)) (tys := (tYS cI cB cO cL)) (k := 0) hx hb hK hP 1 0 rfl rfl (by decide) (by decide) (by decide) dX12_middle_56 ?_
          obtain ⟨h16, hok⟩ := hok
          refine lv_idiv hx hb dX12_middle_57 h16 ?_
          refine lv_goto (tgt := 70) hx hb dX12_middle_58 (by decide) ?_
          exact J_70 v1_27 v2_27 v3_27 v4_27 (v4_27 / ((m_27.2.2 0) 0)) m_27 _ _ hP hS _ (lv_sub hl [0, 1, 2, 3, 4] rfl) hf hok
  refine lv_aload_n hx hb dX12_middle_0 rfl (lv_at hl 0 rfl) ?_
  refine lv_iconst (v := 0) hx hb dX12_middle_1 (by decide) ?_
  refine va_put (D := (dC, dI)) (ci := 9) (v := .int 0) (ty := .int) (C := RX12) (T := TX12) (N := 23) hx hb hts hin12 tyX12 tyX12_ok nmX12 hown hK hP (gD_va hD rfl) hS 0 rfl rfl 7 (by decide) fl49 (fun _ h9 => h9) rfl (by decide +kernel) rfl rfl (Nat.le_of_ble_eq_true rfl) dX12_middle_2 (fun H locs hP _ hS => ?_)
  obtain ⟨m_1, em_1⟩ : ∃ z9 : MS, z9 = msi m 3 0 := ⟨_, rfl⟩
  have hP : va_P (dC, dI) vwCl (mw q cI m_1) H := by rw [em_1]; exact hP
  have hf := lt_eq em_1 hf
  have hok := lt_ok em_1 hok
  refine lv_aload_n hx hb dX12_middle_5 rfl (lv_at hl 0 rfl) ?_
  refine lv_ldc (v := (-1000000000)) hx hb hown cn71 dX12_middle_6 ?_
  obtain ⟨h2, hok⟩ := hok
  refine gms_i (va_runV (As := [.int (-1000000000)]) (rest := []) ⟨hx, hb, hml, hown, hts⟩ (mX12_finds l dC dI cI cB cO cL q m_1 (-1000000000) (gD_any hD) h2) (cwV 1 hts gX12_middle_X12_finds rfl rfl rfl (by decide +kernel) ⟨Nat.le_of_ble_eq_true rfl, Nat.le_of_ble_eq_true rfl⟩) ⟨gP_blind, va_recv hK hP (ci := 9) (q0 := 0) rfl rfl, gP_ok hP hK⟩ rfl rfl hl.1 rfl (lv_room (Nat.le_of_ble_eq_true rfl)) dX12_middle_8 ⟨Nat.zero_le _, Nat.zero_le _⟩) hP (gD_va hD rfl) hS (fun r3 u4 H locs hw hP hS => ?_)
  have hP : va_P (dC, dI) vwCl (mw q cI u4) H := hP
  have hf := bd_eq hw hf
  have hok := bd_ok hw hok
  refine lv_istore_n (lv' := [(2, .int r3), (0, .ref (q 0)), (1, .int (bz a1))]) hx hb dX12_middle_11 rfl hl (by decide) rfl (fun ls hl => ?_)
  refine lv_iload_n hx hb dX12_middle_12 rfl (lv_at hl 0 rfl) ?_
  refine lv_ldc (v := (-1000000000)) hx hb hown cn71 dX12_middle_13 ?_
  refine lv_icmp_ne (tgt := 22) hx hb dX12_middle_15 (by decide) (fun c5 => ?_) (fun c5 => ?_)
  · have hf := ie_eq c5 hf
    have hok := ie_ok c5 hok
    refine lv_iconst (v := 0) hx hb dX12_middle_22 (by decide) ?_
    refine lv_istore_n (lv' := [(3, .int 0), (2, .int r3), (0, .ref (q 0)), (1, .int (bz a1))]) hx hb dX12_middle_23 rfl hl (by decide) rfl (fun ls hl => ?_)
    refine lv_iconst (v := 0) hx hb dX12_middle_24 (by decide) ?_
    refine lv_istore (lv' := [(4, .int 0), (3, .int 0), (2, .int r3), (0, .ref (q 0)), (1, .int (bz a1))]) hx hb dX12_middle_25 hl (by decide) rfl (fun ls hl => ?_)
    exact J_27 fu a1 r3 0 0 u4 _ _ hP hS _ (lv_sub hl [3, 4, 2, 1, 0] rfl) hf hok
  · have hf := it_eq c5 hf
    refine lv_ldc2d (v := 13830554455654793216) hx hb hown cn215 dX12_middle_18 ?_
    exact e_md C0 (hf.symm.trans hF) hP hS dX12_middle_21
