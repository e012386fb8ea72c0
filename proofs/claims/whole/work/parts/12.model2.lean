noncomputable def pX12_isPlace (a1 : Int32) : Bool := pX12_in a1 (-1000) 3000
abbrev rX12_isPlace : Room := { frames := 1, cells := 0, slots := 0, locals := 22 }
set_option maxHeartbeats 4000000 in
set_option maxRecDepth 100000 in
theorem mX12_isPlace (l : Launch) (dC : Nat → ClassId) (dI : Nat → Nat → Nat) (cI cB cO cL : ClassId)  (a1 : Int32) : Met l yX12_isPlace wsX12_isPlace rX12_isPlace (gP (dC, dI) (tYS cI cB cO cL) ([]) [.int a1]) (gRz (pX12_isPlace a1)) 0 0 (fun _ => False) := by
  refine gMet (cc := cX12_isPlace) (maxL := 1) (ret := some .boolean) [(0, .int a1)] (by decide) rfl rfl rfl ?_
  intro p e s mi below meth c C0 hK hP ls hl
  obtain ⟨hx, hb, hr, hml, hown, hts, hlocks⟩ := id C0
  have hown : s.vm.findClass RX12 = some mi.cls := hown
  obtain ⟨F, hF⟩ : ∃ F, F = pX12_isPlace a1 := ⟨_, rfl⟩
  have hf := hF
  refine lv_iload_n hx hb dX12_isPlace_0 rfl (lv_at hl 0 rfl) ?_
  refine lv_sipush (v := (-1000)) hx hb dX12_isPlace_1 (by decide) ?_
  refine lv_sipush (v := 3000) hx hb dX12_isPlace_4 (by decide) ?_
  refine gro_i (va_runS (As := [.int a1, .int (-1000), .int 3000]) (rest := []) ⟨hx, hb, hml, hown, hts⟩ (mX12_in l dC dI cI cB cO cL  a1 (-1000) 3000  ) (va_cwS 3 hts gX12_isPlace_X12_in rfl rfl rfl (by decide +kernel) ⟨Nat.le_of_ble_eq_true rfl, Nat.le_of_ble_eq_true rfl⟩) ⟨gP_blind, gP_ok va_P_nil hK⟩ rfl rfl hl.1 rfl (lv_room (Nat.le_of_ble_eq_true rfl)) dX12_isPlace_7 ⟨Nat.zero_le _, Nat.zero_le _⟩) ?_
  exact e_rz C0 (b := (pX12_in a1 (-1000) 3000)) rfl (hf.symm.trans hF) dX12_isPlace_10
noncomputable def bX12_begins_L70   (q_70 : Int32 → MS → (Int32 × MS)) (v3_70 : Int32) (m_70 : MS) : Int32 × MS := if 4 ≤ v3_70 then ((0, m_70)) else (lt (msa m_70 0 (upd (m_70.2.2 0) ((2 + v3_70).toNatClampNeg) 0)) fun (m_9 : MS) => lt (v3_70 + 1) fun (x10 : Int32) => q_70 x10 m_9)
noncomputable def pX12_begins_L70   : Nat → Int32 → MS → (Int32 × MS)
  | 0 => fun _ m_70 => (0, m_70)
  | n + 1 => bX12_begins_L70   (pX12_begins_L70   n)
def kbX12_begins_L70   (Q_70 : Int32 → MS → Prop) (v3_70 : Int32) (m_70 : MS) : Prop := if 4 ≤ v3_70 then (True) else ((vp_in (2 + v3_70) 122) ∧ (lt (msa m_70 0 (upd (m_70.2.2 0) ((2 + v3_70).toNatClampNeg) 0)) fun (m_9 : MS) => lt (v3_70 + 1) fun (x10 : Int32) => Q_70 x10 m_9))
noncomputable def kX12_begins_L70   : Nat → Int32 → MS → Prop
  | 0 => fun _ _ => False
  | n + 1 => kbX12_begins_L70   (kX12_begins_L70   n)
noncomputable def bX12_begins_L35   (q_35 : Int32 → Int32 → Int32 → MS → (Int32 × MS)) (v1_35 : Int32) (v2_35 : Int32) (v3_35 : Int32) (m_35 : MS) : Int32 × MS := if 122 ≤ v3_35 then (lt (msa m_35 0 (upd (m_35.2.2 0) 0 v1_35)) fun (m_5 : MS) => lt (msa m_5 0 (upd (m_5.2.2 0) 1 v2_35)) fun (m_6 : MS) => pX12_begins_L70 fu 0 m_6) else (lt (msa m_35 0 (upd (m_35.2.2 0) v3_35.toNatClampNeg 0)) fun (m_12 : MS) => lt (v3_35 + 1) fun (x13 : Int32) => q_35 v1_35 v2_35 x13 m_12)
noncomputable def pX12_begins_L35   : Nat → Int32 → Int32 → Int32 → MS → (Int32 × MS)
  | 0 => fun _ _ _ m_35 => (0, m_35)
  | n + 1 => bX12_begins_L35   (pX12_begins_L35   n)
def kbX12_begins_L35   (Q_35 : Int32 → Int32 → Int32 → MS → Prop) (v1_35 : Int32) (v2_35 : Int32) (v3_35 : Int32) (m_35 : MS) : Prop := if 122 ≤ v3_35 then (lt (msa m_35 0 (upd (m_35.2.2 0) 0 v1_35)) fun (m_5 : MS) => lt (msa m_5 0 (upd (m_5.2.2 0) 1 v2_35)) fun (m_6 : MS) => kX12_begins_L70 fu 0 m_6) else ((vp_in v3_35 122) ∧ (lt (msa m_35 0 (upd (m_35.2.2 0) v3_35.toNatClampNeg 0)) fun (m_12 : MS) => lt (v3_35 + 1) fun (x13 : Int32) => Q_35 v1_35 v2_35 x13 m_12))
noncomputable def kX12_begins_L35   : Nat → Int32 → Int32 → Int32 → MS → Prop
  | 0 => fun _ _ _ _ => False
  | n + 1 => kbX12_begins_L35   (kX12_begins_L35   n)
noncomputable def pX12_begins (m : MS) (a1 : Int32) (a2 : Int32) : Int32 × MS := if (pX12_in a1 2 20) = true then (if (pX12_in a2 2 20) = true then (lt (msi m 5 ((m.2.2 0) 5)) fun (m_3 : MS) => pX12_begins_L35 fu a1 a2 14 m_3) else ((2, m))) else ((2, m))
def kX12_begins (m : MS) (a1 : Int32) (a2 : Int32) : Prop := if (pX12_in a1 2 20) = true then (if (pX12_in a2 2 20) = true then (lt (msi m 5 ((m.2.2 0) 5)) fun (m_3 : MS) => kX12_begins_L35 fu a1 a2 14 m_3) else (True)) else (True)
abbrev rX12_begins : Room := { frames := 1, cells := 0, slots := 0, locals := 22 }
set_option maxHeartbeats 4000000 in
set_option maxRecDepth 100000 in
theorem mX12_begins (l : Launch) (dC : Nat → ClassId) (dI : Nat → Nat → Nat) (cI cB cO cL : ClassId) (q : Nat → Nat) (m : MS) (a1 : Int32) (a2 : Int32) (hI : gD (fun _ => True) (mAd q)) (hok : kX12_begins m a1 a2) : Met l yX12_begins wsX12_begins rX12_begins (gP (dC, dI) (tYS cI cB cO cL) (mw q cI m) [.ref (q 0), .int a1, .int a2]) (gQi (dC, dI) (fun m9 => mw q cI m9) (wA (mw q cI m)) (pX12_begins m a1 a2)) 0 0 (wA (mw q cI m)) := by
  refine gMet (cc := cX12_begins) (maxL := 4) (ret := some .int) [(0, .ref (q 0)), (1, .int a1), (2, .int a2)] (by decide) rfl rfl rfl ?_
  intro p e s mi below meth c C0 hK hP ls hl
  obtain ⟨hx, hb, hr, hml, hown, hts, hlocks⟩ := id C0
  have hown : s.vm.findClass RX12 = some mi.cls := hown
  have hS : va_S (wA (mw q cI m)) s.heap s.heap [] := va_S.rf
  have hD : gD (wA (mw q cI m)) (mAd q) := gD_wA (ws := mw q cI m) hI
  have hP : va_P (dC, dI) vwCl (mw q cI m) s.heap := hP
  obtain ⟨F, hF⟩ : ∃ F, F = pX12_begins m a1 a2 := ⟨_, rfl⟩
  have hf := hF
  have hin12 : ∀ w ∈ u_ws RX12 TX12 23, w ∈ wsX12_begins := by decide +kernel
  have fl7 := hts (.fieldLink RX12 7 "ClickBenchModel" "s" "[I") (by decide +kernel)
  have fl119 := hts (.fieldLink RX12 119 "ClickBenchModel" "answer" "I") (by decide +kernel)
  have J_70 : ∀ (n_70 : Nat) (v3_70 : Int32) (m_70 : MS) (H : Heap) (locs : List Loc), va_P (dC, dI) vwCl (mw q cI m_70) H → va_S (wA (mw q cI m)) s.heap H locs → ∀ ls : Array Slot, lv_has ls 4 [(0, .ref (q 0)), (3, .int v3_70)] → F = pX12_begins_L70 n_70 v3_70 m_70 → kX12_begins_L70 n_70 v3_70 m_70 → W p l e rX12_begins s mi ([.ref (q 0), .int a1, .int a2] : List Value).toArray below meth c H locs 0 0 (MQ below (gQi (dC, dI) (fun m9 => mw q cI m9) (wA (mw q cI m)) (pX12_begins m a1 a2)) ([.ref (q 0), .int a1, .int a2] : List Value).toArray s 0 0 (wA (mw q cI m))) (F0 mi 70 ls []) := by
    intro n_70
    induction n_70 with
    | zero =>
      intro v3_70 m_70 H locs hP hS ls hl hf hok
      exact absurd hok (fun h => h)
    | succ n_70 ih_70 =>
      intro v3_70 m_70 H locs hP hS ls hl hf hok
      have hf : F = bX12_begins_L70 (pX12_begins_L70 n_70) v3_70 m_70 := hf
      have hok : kbX12_begins_L70 (kX12_begins_L70 n_70) v3_70 m_70 := hok
      refine lv_iload_n hx hb dX12_begins_70 rfl (lv_at hl 1 rfl) ?_
      refine lv_iconst (v := 4) hx hb dX12_begins_71 (by decide) ?_
      refine lv_icmp_ge (tgt := 90) hx hb dX12_begins_72 (by decide) (fun c7 => ?_) (fun c7 => ?_)
      · have hf := it_eq c7 hf
        refine lv_iconst (v := 0) hx hb dX12_begins_90 (by decide) ?_
        exact e_mi C0 (hf.symm.trans hF) hP hS dX12_begins_91
      · have hf := ie_eq c7 hf
        have hok := ie_ok c7 hok
        refine lv_aload_n hx hb dX12_begins_75 rfl (lv_at hl 0 rfl) ?_
        refine va_get (D := (dC, dI)) (ci := 9) (v := .ref (q 1)) (C := RX12) (T := TX12) (N := 23) hx hb hts hin12 hown hK hP 0 rfl rfl 0 (by decide) fl7 (fun _ h9 => h9) rfl dX12_begins_76 ?_
        refine lv_iconst (v := 2) hx hb dX12_begins_79 (by decide) ?_
        refine lv_iload_n hx hb dX12_begins_80 rfl (lv_at hl 1 rfl) ?_
        refine lv_iadd hx hb dX12_begins_81 ?_
        refine lv_iconst (v := 0) hx hb dX12_begins_82 (by decide) ?_
        obtain ⟨h8, hok⟩ := hok
        refine va_iast (D := (dC, dI)) (tys := (tYS cI cB cO cL)) hx hb hK hP (gD_va hD rfl) hS 1 0 rfl rfl h8 dX12_begins_83 (fun H locs hP _ hS => ?_)
        obtain ⟨m_9, em_9⟩ : ∃ z9 : MS, z9 = msa m_70 0 (upd (m_70.2.2 0) ((2 + v3_70).toNatClampNeg) 0) := ⟨_, rfl⟩
        have hP : va_P (dC, dI) vwCl (mw q cI m_9) H := by rw [em_9]; exact hP
        have hf := lt_eq em_9 hf
        have hok := lt_ok em_9 hok
        obtain ⟨x10, ex10⟩ : ∃ y : Int32, y = v3_70 + 1 := ⟨_, rfl⟩
        refine lv_iinc (v := x10) (lv' := [(3, .int x10), (0, .ref (q 0))]) hx hb dX12_begins_84 hl (k := 1) rfl (by rw [ex10]; rfl) (by decide) rfl (fun ls hl => ?_)
        have hf := lt_eq ex10 hf
        have hok := lt_ok ex10 hok
        refine lv_goto (tgt := 70) hx hb dX12_begins_87 (by decide) ?_
        exact ih_70 x10 m_9 _ _ hP hS _ (lv_sub hl [1, 0] rfl) hf hok
  have J_35 : ∀ (n_35 : Nat) (v1_35 : Int32) (v2_35 : Int32) (v3_35 : Int32) (m_35 : MS) (H : Heap) (locs : List Loc), va_P (dC, dI) vwCl (mw q cI m_35) H → va_S (wA (mw q cI m)) s.heap H locs → ∀ ls : Array Slot, lv_has ls 4 [(0, .ref (q 0)), (1, .int v1_35), (2, .int v2_35), (3, .int v3_35)] → F = pX12_begins_L35 n_35 v1_35 v2_35 v3_35 m_35 → kX12_begins_L35 n_35 v1_35 v2_35 v3_35 m_35 → W p l e rX12_begins s mi ([.ref (q 0), .int a1, .int a2] : List Value).toArray below meth c H locs 0 0 (MQ below (gQi (dC, dI) (fun m9 => mw q cI m9) (wA (mw q cI m)) (pX12_begins m a1 a2)) ([.ref (q 0), .int a1, .int a2] : List Value).toArray s 0 0 (wA (mw q cI m))) (F0 mi 35 ls []) := by
    intro n_35
    induction n_35 with
    | zero =>
      intro v1_35 v2_35 v3_35 m_35 H locs hP hS ls hl hf hok
      exact absurd hok (fun h => h)
    | succ n_35 ih_35 =>
      intro v1_35 v2_35 v3_35 m_35 H locs hP hS ls hl hf hok
      have hf : F = bX12_begins_L35 (pX12_begins_L35 n_35) v1_35 v2_35 v3_35 m_35 := hf
      have hok : kbX12_begins_L35 (kX12_begins_L35 n_35) v1_35 v2_35 v3_35 m_35 := hok
      refine lv_iload_n hx hb dX12_begins_35 rfl (lv_at hl 3 rfl) ?_
      refine lv_bipush (v := 122) hx hb dX12_begins_36 (by decide) ?_
      refine lv_icmp_ge (tgt := 54) hx hb dX12_begins_38 (by decide) (fun c4 => ?_) (fun c4 => ?_)
      · have hf := it_eq c4 hf
        have hok := it_ok c4 hok
        refine lv_aload_n hx hb dX12_begins_54 rfl (lv_at hl 0 rfl) ?_
        refine va_get (D := (dC, dI)) (ci := 9) (v := .ref (q 1)) (C := RX12) (T := TX12) (N := 23) hx hb hts hin12 hown hK hP 0 rfl rfl 0 (by decide) fl7 (fun _ h9 => h9) rfl dX12_begins_55 ?_
        refine lv_iconst (v := 0) hx hb dX12_begins_58 (by decide) ?_
        refine lv_iload_n hx hb dX12_begins_59 rfl (lv_at hl 1 rfl) ?_
        refine g_iastK (D := (dC, dI)) (tys := (tYS cI cB cO cL)) (k := 0) hx hb hK hP (gD_va hD rfl) hS 1 0 rfl rfl (by decide) (by decide) (by decide) dX12_begins_60 (fun H locs hP hS => ?_)
        obtain ⟨m_5, em_5⟩ : ∃ z9 : MS, z9 = msa m_35 0 (upd (m_35.2.2 0) 0 v1_35) := ⟨_, rfl⟩
        have hP : va_P (dC, dI) vwCl (mw q cI m_5) H := by rw [em_5]; exact hP
        have hf := lt_eq em_5 hf
        have hok := lt_ok em_5 hok
        refine lv_aload_n hx hb dX12_begins_61 rfl (lv_at hl 0 rfl) ?_
        refine va_get (D := (dC, dI)) (ci := 9) (v := .ref (q 1)) (C := RX12) (T := TX12) (N := 23) hx hb hts hin12 hown hK hP 0 rfl rfl 0 (by decide) fl7 (fun _ h9 => h9) rfl dX12_begins_62 ?_
        refine lv_iconst (v := 1) hx hb dX12_begins_65 (by decide) ?_
        refine lv_iload_n hx hb dX12_begins_66 rfl (lv_at hl 2 rfl) ?_
        refine g_iastK (D := (dC, dI)) (tys := (tYS cI cB cO cL)) (k := 1) hx hb hK hP (gD_va hD rfl) hS 1 0 rfl rfl (by decide) (by decide) (by decide) dX12_begins_67 (fun H locs hP hS => ?_)
        obtain ⟨m_6, em_6⟩ : ∃ z9 : MS, z9 = msa m_5 0 (upd (m_5.2.2 0) 1 v2_35) := ⟨_, rfl⟩
        have hP : va_P (dC, dI) vwCl (mw q cI m_6) H := by rw [em_6]; exact hP
        have hf := lt_eq em_6 hf
        have hok := lt_ok em_6 hok
        refine lv_iconst (v := 0) hx hb dX12_begins_68 (by decide) ?_
        refine lv_istore_n (lv' := [(3, .int 0), (0, .ref (q 0)), (1, .int v1_35), (2, .int v2_35)]) hx hb dX12_begins_69 rfl hl (by decide) rfl (fun ls hl => ?_)
        exact J_70 fu 0 m_6 _ _ hP hS _ (lv_sub hl [1, 0] rfl) hf hok
      · have hf := ie_eq c4 hf
        have hok := ie_ok c4 hok
        refine lv_aload_n hx hb dX12_begins_41 rfl (lv_at hl 0 rfl) ?_
        refine va_get (D := (dC, dI)) (ci := 9) (v := .ref (q 1)) (C := RX12) (T := TX12) (N := 23) hx hb hts hin12 hown hK hP 0 rfl rfl 0 (by decide) fl7 (fun _ h9 => h9) rfl dX12_begins_42 ?_
        refine lv_iload_n hx hb dX12_begins_45 rfl (lv_at hl 3 rfl) ?_
        refine lv_iconst (v := 0) hx hb dX12_begins_46 (by decide) ?_
        obtain ⟨h11, hok⟩ := hok
        refine va_iast (D := (dC, dI)) (tys := (tYS cI cB cO cL)) hx hb hK hP (gD_va hD rfl) hS 1 0 rfl rfl h11 dX12_begins_47 (fun H locs hP _ hS => ?_)
        obtain ⟨m_12, em_12⟩ : ∃ z9 : MS, z9 = msa m_35 0 (upd (m_35.2.2 0) v3_35.toNatClampNeg 0) := ⟨_, rfl⟩
        have hP : va_P (dC, dI) vwCl (mw q cI m_12) H := by rw [em_12]; exact hP
        have hf := lt_eq em_12 hf
        have hok := lt_ok em_12 hok
        obtain ⟨x13, ex13⟩ : ∃ y : Int32, y = v3_35 + 1 := ⟨_, rfl⟩
        refine lv_iinc (v := x13) (lv' := [(3, .int x13), (0, .ref (q 0)), (1, .int v1_35), (2, .int v2_35)]) hx hb dX12_begins_48 hl (k := 3) rfl (by rw [ex13]; rfl) (by decide) rfl (fun ls hl => ?_)
        have hf := lt_eq ex13 hf
        have hok := lt_ok ex13 hok
        refine lv_goto (tgt := 35) hx hb dX12_begins_51 (by decide) ?_
        exact ih_35 v1_35 v2_35 x13 m_12 _ _ hP hS _ (lv_sub hl [1, 2, 3, 0] rfl) hf hok
  refine lv_iload_n hx hb dX12_begins_0 rfl (lv_at hl 1 rfl) ?_
  refine lv_iconst (v := 2) hx hb dX12_begins_1 (by decide) ?_
  refine lv_bipush (v := 20) hx hb dX12_begins_2 (by decide) ?_
  refine gro_i (va_runS (As := [.int a1, .int 2, .int 20]) (rest := []) ⟨hx, hb, hml, hown, hts⟩ (mX12_in l dC dI cI cB cO cL  a1 2 20  ) (va_cwS 3 hts gX12_begins_X12_in rfl rfl rfl (by decide +kernel) ⟨Nat.le_of_ble_eq_true rfl, Nat.le_of_ble_eq_true rfl⟩) ⟨gP_blind, gP_ok va_P_nil hK⟩ rfl rfl hl.1 rfl (lv_room (Nat.le_of_ble_eq_true rfl)) dX12_begins_4 ⟨Nat.zero_le _, Nat.zero_le _⟩) ?_
  refine lv_if_eq (tgt := 20) hx hb dX12_begins_7 (by decide) (fun c1 => ?_) (fun c1 => ?_)
  · have c1 := bz_f c1
    have hf := ie_eq c1 hf
    refine lv_iconst (v := 2) hx hb dX12_begins_20 (by decide) ?_
    exact e_mi C0 (hf.symm.trans hF) hP hS dX12_begins_21
  · have c1 := bz_t c1
    have hf := it_eq c1 hf
    have hok := it_ok c1 hok
    refine lv_iload_n hx hb dX12_begins_10 rfl (lv_at hl 2 rfl) ?_
    refine lv_iconst (v := 2) hx hb dX12_begins_11 (by decide) ?_
    refine lv_bipush (v := 20) hx hb dX12_begins_12 (by decide) ?_
    refine gro_i (va_runS (As := [.int a2, .int 2, .int 20]) (rest := []) ⟨hx, hb, hml, hown, hts⟩ (mX12_in l dC dI cI cB cO cL  a2 2 20  ) (va_cwS 3 hts gX12_begins_X12_in rfl rfl rfl (by decide +kernel) ⟨Nat.le_of_ble_eq_true rfl, Nat.le_of_ble_eq_true rfl⟩) ⟨gP_blind, gP_ok va_P_nil hK⟩ rfl rfl hl.1 rfl (lv_room (Nat.le_of_ble_eq_true rfl)) dX12_begins_14 ⟨Nat.zero_le _, Nat.zero_le _⟩) ?_
    refine lv_if_ne (tgt := 22) hx hb dX12_begins_17 (by decide) (fun c2 => ?_) (fun c2 => ?_)
    · have c2 := bz_t c2
      have hf := it_eq c2 hf
      have hok := it_ok c2 hok
      refine lv_aload_n hx hb dX12_begins_22 rfl (lv_at hl 0 rfl) ?_
      refine lv_aload_n hx hb dX12_begins_23 rfl (lv_at hl 0 rfl) ?_
      refine va_get (D := (dC, dI)) (ci := 9) (v := .ref (q 1)) (C := RX12) (T := TX12) (N := 23) hx hb hts hin12 hown hK hP 0 rfl rfl 0 (by decide) fl7 (fun _ h9 => h9) rfl dX12_begins_24 ?_
      refine lv_iconst (v := 5) hx hb dX12_begins_27 (by decide) ?_
      refine g_ialdK (D := (dC, dI)) (tys := (tYS cI cB cO cL)) (k := 5) hx hb hK hP 1 0 rfl rfl (by decide) (by decide) (by decide) dX12_begins_28 ?_
      refine va_put (D := (dC, dI)) (ci := 9) (v := .int ((m.2.2 0) 5)) (ty := .int) (C := RX12) (T := TX12) (N := 23) hx hb hts hin12 tyX12 tyX12_ok nmX12 hown hK hP (gD_va hD rfl) hS 0 rfl rfl 14 (by decide) fl119 (fun _ h9 => h9) rfl (by decide +kernel) rfl rfl (Nat.le_of_ble_eq_true rfl) dX12_begins_29 (fun H locs hP _ hS => ?_)
      obtain ⟨m_3, em_3⟩ : ∃ z9 : MS, z9 = msi m 5 ((m.2.2 0) 5) := ⟨_, rfl⟩
      have hP : va_P (dC, dI) vwCl (mw q cI m_3) H := by rw [em_3]; exact hP
      have hf := lt_eq em_3 hf
      have hok := lt_ok em_3 hok
      refine lv_bipush (v := 14) hx hb dX12_begins_32 (by decide) ?_
      refine lv_istore_n (lv' := [(3, .int 14), (0, .ref (q 0)), (1, .int a1), (2, .int a2)]) hx hb dX12_begins_34 rfl hl (by decide) rfl (fun ls hl => ?_)
      exact J_35 fu a1 a2 14 m_3 _ _ hP hS _ (lv_sub hl [1, 2, 3, 0] rfl) hf hok
    · have c2 := bz_f c2
      have hf := ie_eq c2 hf
      refine lv_iconst (v := 2) hx hb dX12_begins_20 (by decide) ?_
      exact e_mi C0 (hf.symm.trans hF) hP hS dX12_begins_21
noncomputable def bX12_comes_L53   (q_53 : Int32 → Int32 → Int32 → MS → (Int32 × MS)) (v1_53 : Int32) (v2_53 : Int32) (v3_53 : Int32) (m_53 : MS) : Int32 × MS := if 10 ≤ v3_53 then (lt (pX12_puts m_53 (m_53.1 5) 0 v1_53) fun (u8 : MS) => lt (pX12_puts u8 (u8.1 5) 1 v2_53) fun (u11 : MS) => lt (msa u11 0 (upd (u11.2.2 0) 2 (((u11.2.2 0) 2) + 1))) fun (m_12 : MS) => (0, m_12)) else (lt (pX12_puts m_53 (m_53.1 5) v3_53 0) fun (u15 : MS) => lt (v3_53 + 1) fun (x16 : Int32) => q_53 v1_53 v2_53 x16 u15)
noncomputable def pX12_comes_L53   : Nat → Int32 → Int32 → Int32 → MS → (Int32 × MS)
  | 0 => fun _ _ _ m_53 => (0, m_53)
  | n + 1 => bX12_comes_L53   (pX12_comes_L53   n)
def kbX12_comes_L53   (Q_53 : Int32 → Int32 → Int32 → MS → Prop) (v1_53 : Int32) (v2_53 : Int32) (v3_53 : Int32) (m_53 : MS) : Prop := if 10 ≤ v3_53 then ((kX12_puts m_53 (m_53.1 5) 0 v1_53) ∧ (lt (pX12_puts m_53 (m_53.1 5) 0 v1_53) fun (u8 : MS) => kX12_puts u8 (u8.1 5) 1 v2_53)) else ((kX12_puts m_53 (m_53.1 5) v3_53 0) ∧ (lt (pX12_puts m_53 (m_53.1 5) v3_53 0) fun (u15 : MS) => lt (v3_53 + 1) fun (x16 : Int32) => Q_53 v1_53 v2_53 x16 u15))
noncomputable def kX12_comes_L53   : Nat → Int32 → Int32 → Int32 → MS → Prop
  | 0 => fun _ _ _ _ => False
  | n + 1 => kbX12_comes_L53   (kX12_comes_L53   n)
noncomputable def pX12_comes (m : MS) (a1 : Int32) (a2 : Int32) : Int32 × MS := if (pX12_in a1 (-500) 2500) = true then (if (pX12_in a2 (-500) 2500) = true then (if ((m.2.2 0) 2) = 8 then ((3, m)) else (lt (msi m 5 ((m.2.2 0) 2)) fun (m_4 : MS) => pX12_comes_L53 fu a1 a2 0 m_4)) else ((2, m))) else ((2, m))
def kX12_comes (m : MS) (a1 : Int32) (a2 : Int32) : Prop := if (pX12_in a1 (-500) 2500) = true then (if (pX12_in a2 (-500) 2500) = true then (if ((m.2.2 0) 2) = 8 then (True) else (lt (msi m 5 ((m.2.2 0) 2)) fun (m_4 : MS) => kX12_comes_L53 fu a1 a2 0 m_4)) else (True)) else (True)
abbrev rX12_comes : Room := { frames := 1, cells := 0, slots := 0, locals := 23 }
set_option maxHeartbeats 4000000 in
set_option maxRecDepth 100000 in
theorem mX12_comes (l : Launch) (dC : Nat → ClassId) (dI : Nat → Nat → Nat) (cI cB cO cL : ClassId) (q : Nat → Nat) (m : MS) (a1 : Int32) (a2 : Int32) (hI : gD (fun _ => True) (mAd q)) (hok : kX12_comes m a1 a2) : Met l yX12_comes wsX12_comes rX12_comes (gP (dC, dI) (tYS cI cB cO cL) (mw q cI m) [.ref (q 0), .int a1, .int a2]) (gQi (dC, dI) (fun m9 => mw q cI m9) (wA (mw q cI m)) (pX12_comes m a1 a2)) 0 0 (wA (mw q cI m)) := by
  refine gMet (cc := cX12_comes) (maxL := 4) (ret := some .int) [(0, .ref (q 0)), (1, .int a1), (2, .int a2)] (by decide) rfl rfl rfl ?_
  intro p e s mi below meth c C0 hK hP ls hl
  obtain ⟨hx, hb, hr, hml, hown, hts, hlocks⟩ := id C0
  have hown : s.vm.findClass RX12 = some mi.cls := hown
  have hS : va_S (wA (mw q cI m)) s.heap s.heap [] := va_S.rf
  have hD : gD (wA (mw q cI m)) (mAd q) := gD_wA (ws := mw q cI m) hI
  have hP : va_P (dC, dI) vwCl (mw q cI m) s.heap := hP
  obtain ⟨F, hF⟩ : ∃ F, F = pX12_comes m a1 a2 := ⟨_, rfl⟩
  have hf := hF
  have hin12 : ∀ w ∈ u_ws RX12 TX12 23, w ∈ wsX12_comes := by decide +kernel
  have fl7 := hts (.fieldLink RX12 7 "ClickBenchModel" "s" "[I") (by decide +kernel)
  have fl119 := hts (.fieldLink RX12 119 "ClickBenchModel" "answer" "I") (by decide +kernel)
  have J_53 : ∀ (n_53 : Nat) (v1_53 : Int32) (v2_53 : Int32) (v3_53 : Int32) (m_53 : MS) (H : Heap) (locs : List Loc), va_P (dC, dI) vwCl (mw q cI m_53) H → va_S (wA (mw q cI m)) s.heap H locs → ∀ ls : Array Slot, lv_has ls 4 [(0, .ref (q 0)), (1, .int v1_53), (2, .int v2_53), (3, .int v3_53)] → F = pX12_comes_L53 n_53 v1_53 v2_53 v3_53 m_53 → kX12_comes_L53 n_53 v1_53 v2_53 v3_53 m_53 → W p l e rX12_comes s mi ([.ref (q 0), .int a1, .int a2] : List Value).toArray below meth c H locs 0 0 (MQ below (gQi (dC, dI) (fun m9 => mw q cI m9) (wA (mw q cI m)) (pX12_comes m a1 a2)) ([.ref (q 0), .int a1, .int a2] : List Value).toArray s 0 0 (wA (mw q cI m))) (F0 mi 53 ls []) := by
    intro n_53
    induction n_53 with
    | zero =>
      intro v1_53 v2_53 v3_53 m_53 H locs hP hS ls hl hf hok
      exact absurd hok (fun h => h)
    | succ n_53 ih_53 =>
      intro v1_53 v2_53 v3_53 m_53 H locs hP hS ls hl hf hok
      have hf : F = bX12_comes_L53 (pX12_comes_L53 n_53) v1_53 v2_53 v3_53 m_53 := hf
      have hok : kbX12_comes_L53 (kX12_comes_L53 n_53) v1_53 v2_53 v3_53 m_53 := hok
      refine lv_iload_n hx hb dX12_comes_53 rfl (lv_at hl 3 rfl) ?_
      refine lv_bipush (v := 10) hx hb dX12_comes_54 (by decide) ?_
      refine lv_icmp_ge (tgt := 75) hx hb dX12_comes_56 (by decide) (fun c5 => ?_) (fun c5 => ?_)
      · have hf := it_eq c5 hf
        have hok := it_ok c5 hok
        refine lv_aload_n hx hb dX12_comes_75 rfl (lv_at hl 0 rfl) ?_
        refine lv_aload_n hx hb dX12_comes_76 rfl (lv_at hl 0 rfl) ?_
        refine va_get (D := (dC, dI)) (ci := 9) (v := .int (m_53.1 5)) (C := RX12) (T := TX12) (N := 23) hx hb hts hin12 hown hK hP 0 rfl rfl 14 (by decide) fl119 (fun _ h9 => h9) rfl dX12_comes_77 ?_
        refine lv_iconst (v := 0) hx hb dX12_comes_80 (by decide) ?_
        refine lv_iload_n hx hb dX12_comes_81 rfl (lv_at hl 1 rfl) ?_
        obtain ⟨h6, hok⟩ := hok
        refine gms_v (va_runV (As := [.int (m_53.1 5), .int 0, .int v1_53]) (rest := []) ⟨hx, hb, hml, hown, hts⟩ (mX12_puts l dC dI cI cB cO cL q m_53 (m_53.1 5) 0 v1_53 (gD_any hD) h6) (cwV 3 hts gX12_comes_X12_puts rfl rfl rfl (by decide +kernel) ⟨Nat.le_of_ble_eq_true rfl, Nat.le_of_ble_eq_true rfl⟩) ⟨gP_blind, va_recv hK hP (ci := 9) (q0 := 0) rfl rfl, gP_ok hP hK⟩ rfl rfl hl.1 rfl (lv_room (Nat.le_of_ble_eq_true rfl)) dX12_comes_82 ⟨Nat.zero_le _, Nat.zero_le _⟩) hP (gD_va hD rfl) hS (fun u8 H locs hw hP hS => ?_)
        have hP : va_P (dC, dI) vwCl (mw q cI u8) H := hP
        have hf := lt_eq hw hf
        have hok := lt_ok hw hok
        refine lv_aload_n hx hb dX12_comes_85 rfl (lv_at hl 0 rfl) ?_
        refine lv_aload_n hx hb dX12_comes_86 rfl (lv_at hl 0 rfl) ?_
        refine va_get (D := (dC, dI)) (ci := 9) (v := .int (u8.1 5)) (C := RX12) (T := TX12) (N := 23) hx hb hts hin12 hown hK hP 0 rfl rfl 14 (by decide) fl119 (fun _ h9 => h9) rfl dX12_comes_87 ?_
        refine lv_iconst (v := 1) hx hb dX12_comes_90 (by decide) ?_
        refine lv_iload_n hx hb dX12_comes_91 rfl (lv_at hl 2 rfl) ?_
        have h9 : kX12_puts u8 (u8.1 5) 1 v2_53 := hok
        refine gms_v (va_runV (As := [.int (u8.1 5), .int 1, .int v2_53]) (rest := []) ⟨hx, hb, hml, hown, hts⟩ (mX12_puts l dC dI cI cB cO cL q u8 (u8.1 5) 1 v2_53 (gD_any hD) h9) (cwV 3 hts gX12_comes_X12_puts rfl rfl rfl (by decide +kernel) ⟨Nat.le_of_ble_eq_true rfl, Nat.le_of_ble_eq_true rfl⟩) ⟨gP_blind, va_recv hK hP (ci := 9) (q0 := 0) rfl rfl, gP_ok hP hK⟩ rfl rfl hl.1 rfl (lv_room (Nat.le_of_ble_eq_true rfl)) dX12_comes_92 ⟨Nat.zero_le _, Nat.zero_le _⟩) hP (gD_va hD rfl) hS (fun u11 H locs hw hP hS => ?_)
        have hP : va_P (dC, dI) vwCl (mw q cI u11) H := hP
        have hf := lt_eq hw hf
        refine lv_aload_n hx hb dX12_comes_95 rfl (lv_at hl 0 rfl) ?_
        refine va_get (D := (dC, dI)) (ci := 9) (v := .ref (q 1)) (C := RX12) (T := TX12) (N := 23) hx hb hts hin12 hown hK hP 0 rfl rfl 0 (by decide) fl7 (fun _ h9 => h9) rfl dX12_comes_96 ?_
        refine lv_iconst (v := 2) hx hb dX12_comes_99 (by decide) ?_
        refine lv_dup2_11 hx hb dX12_comes_100 rfl rfl ?_
        refine g_ialdK (D := (dC, dI)) (tys := (tYS cI cB cO cL)) (k := 2) hx hb hK hP 1 0 rfl rfl (by decide) (by decide) (by decide) dX12_comes_101 ?_
        refine lv_iconst (v := 1) hx hb dX12_comes_102 (by decide) ?_
        refine lv_iadd hx hb dX12_comes_103 ?_
        refine g_iastK (D := (dC, dI)) (tys := (tYS cI cB cO cL)) (k := 2) hx hb hK hP (gD_va hD rfl) hS 1 0 rfl rfl (by decide) (by decide) (by decide) dX12_comes_104 (fun H locs hP hS => ?_)
        obtain ⟨m_12, em_12⟩ : ∃ z9 : MS, z9 = msa u11 0 (upd (u11.2.2 0) 2 (((u11.2.2 0) 2) + 1)) := ⟨_, rfl⟩
        have hP : va_P (dC, dI) vwCl (mw q cI m_12) H := by rw [em_12]; exact hP
        have hf := lt_eq em_12 hf
        refine lv_iconst (v := 0) hx hb dX12_comes_105 (by decide) ?_
        exact e_mi C0 (hf.symm.trans hF) hP hS dX12_comes_106
      · have hf := ie_eq c5 hf
        have hok := ie_ok c5 hok
        refine lv_aload_n hx hb dX12_comes_59 rfl (lv_at hl 0 rfl) ?_
        refine lv_aload_n hx hb dX12_comes_60 rfl (lv_at hl 0 rfl) ?_
        refine va_get (D := (dC, dI)) (ci := 9) (v := .int (m_53.1 5)) (C := RX12) (T := TX12) (N := 23) hx hb hts hin12 hown hK hP 0 rfl rfl 14 (by decide) fl119 (fun _ h9 => h9) rfl dX12_comes_61 ?_
        refine lv_iload_n hx hb dX12_comes_64 rfl (lv_at hl 3 rfl) ?_
        refine lv_iconst (v := 0) hx hb dX12_comes_65 (by decide) ?_
        obtain ⟨h13, hok⟩ := hok
        refine gms_v (va_runV (As := [.int (m_53.1 5), .int v3_53, .int 0]) (rest := []) ⟨hx, hb, hml, hown, hts⟩ (mX12_puts l dC dI cI cB cO cL q m_53 (m_53.1 5) v3_53 0 (gD_any hD) h13) (cwV 3 hts gX12_comes_X12_puts rfl rfl rfl (by decide +kernel) ⟨Nat.le_of_ble_eq_true rfl, Nat.le_of_ble_eq_true rfl⟩) ⟨gP_blind, va_recv hK hP (ci := 9) (q0 := 0) rfl rfl, gP_ok hP hK⟩ rfl rfl hl.1 rfl (lv_room (Nat.le_of_ble_eq_true rfl)) dX12_comes_66 ⟨Nat.zero_le _, Nat.zero_le _⟩) hP (gD_va hD rfl) hS (fun u15 H locs hw hP hS => ?_)
        have hP : va_P (dC, dI) vwCl (mw q cI u15) H := hP
        have hf := lt_eq hw hf
        have hok := lt_ok hw hok
        obtain ⟨x16, ex16⟩ : ∃ y : Int32, y = v3_53 + 1 := ⟨_, rfl⟩
        refine lv_iinc (v := x16) (lv' := [(3, .int x16), (0, .ref (q 0)), (1, .int v1_53), (2, .int v2_53)]) hx hb dX12_comes_69 hl (k := 3) rfl (by rw [ex16]; rfl) (by decide) rfl (fun ls hl => ?_)
        have hf := lt_eq ex16 hf
        have hok := lt_ok ex16 hok
        refine lv_goto (tgt := 53) hx hb dX12_comes_72 (by decide) ?_
        exact ih_53 v1_53 v2_53 x16 u15 _ _ hP hS _ (lv_sub hl [1, 2, 3, 0] rfl) hf hok
  refine lv_iload_n hx hb dX12_comes_0 rfl (lv_at hl 1 rfl) ?_
  refine lv_sipush (v := (-500)) hx hb dX12_comes_1 (by decide) ?_
  refine lv_sipush (v := 2500) hx hb dX12_comes_4 (by decide) ?_
  refine gro_i (va_runS (As := [.int a1, .int (-500), .int 2500]) (rest := []) ⟨hx, hb, hml, hown, hts⟩ (mX12_in l dC dI cI cB cO cL  a1 (-500) 2500  ) (va_cwS 3 hts gX12_comes_X12_in rfl rfl rfl (by decide +kernel) ⟨Nat.le_of_ble_eq_true rfl, Nat.le_of_ble_eq_true rfl⟩) ⟨gP_blind, gP_ok va_P_nil hK⟩ rfl rfl hl.1 rfl (lv_room (Nat.le_of_ble_eq_true rfl)) dX12_comes_7 ⟨Nat.zero_le _, Nat.zero_le _⟩) ?_
  refine lv_if_eq (tgt := 26) hx hb dX12_comes_10 (by decide) (fun c1 => ?_) (fun c1 => ?_)
  · have c1 := bz_f c1
    have hf := ie_eq c1 hf
    refine lv_iconst (v := 2) hx hb dX12_comes_26 (by decide) ?_
    exact e_mi C0 (hf.symm.trans hF) hP hS dX12_comes_27
  · have c1 := bz_t c1
    have hf := it_eq c1 hf
    have hok := it_ok c1 hok
    refine lv_iload_n hx hb dX12_comes_13 rfl (lv_at hl 2 rfl) ?_
    refine lv_sipush (v := (-500)) hx hb dX12_comes_14 (by decide) ?_
    refine lv_sipush (v := 2500) hx hb dX12_comes_17 (by decide) ?_
    refine gro_i (va_runS (As := [.int a2, .int (-500), .int 2500]) (rest := []) ⟨hx, hb, hml, hown, hts⟩ (mX12_in l dC dI cI cB cO cL  a2 (-500) 2500  ) (va_cwS 3 hts gX12_comes_X12_in rfl rfl rfl (by decide +kernel) ⟨Nat.le_of_ble_eq_true rfl, Nat.le_of_ble_eq_true rfl⟩) ⟨gP_blind, gP_ok va_P_nil hK⟩ rfl rfl hl.1 rfl (lv_room (Nat.le_of_ble_eq_true rfl)) dX12_comes_20 ⟨Nat.zero_le _, Nat.zero_le _⟩) ?_
    refine lv_if_ne (tgt := 28) hx hb dX12_comes_23 (by decide) (fun c2 => ?_) (fun c2 => ?_)
    · have c2 := bz_t c2
      have hf := it_eq c2 hf
      have hok := it_ok c2 hok
      refine lv_aload_n hx hb dX12_comes_28 rfl (lv_at hl 0 rfl) ?_
      refine va_get (D := (dC, dI)) (ci := 9) (v := .ref (q 1)) (C := RX12) (T := TX12) (N := 23) hx hb hts hin12 hown hK hP 0 rfl rfl 0 (by decide) fl7 (fun _ h9 => h9) rfl dX12_comes_29 ?_
      refine lv_iconst (v := 2) hx hb dX12_comes_32 (by decide) ?_
      refine g_ialdK (D := (dC, dI)) (tys := (tYS cI cB cO cL)) (k := 2) hx hb hK hP 1 0 rfl rfl (by decide) (by decide) (by decide) dX12_comes_33 ?_
      refine lv_bipush (v := 8) hx hb dX12_comes_34 (by decide) ?_
      refine lv_icmp_ne (tgt := 41) hx hb dX12_comes_36 (by decide) (fun c3 => ?_) (fun c3 => ?_)
      · have hf := ie_eq c3 hf
        have hok := ie_ok c3 hok
        refine lv_aload_n hx hb dX12_comes_41 rfl (lv_at hl 0 rfl) ?_
        refine lv_aload_n hx hb dX12_comes_42 rfl (lv_at hl 0 rfl) ?_
        refine va_get (D := (dC, dI)) (ci := 9) (v := .ref (q 1)) (C := RX12) (T := TX12) (N := 23) hx hb hts hin12 hown hK hP 0 rfl rfl 0 (by decide) fl7 (fun _ h9 => h9) rfl dX12_comes_43 ?_
        refine lv_iconst (v := 2) hx hb dX12_comes_46 (by decide) ?_
        refine g_ialdK (D := (dC, dI)) (tys := (tYS cI cB cO cL)) (k := 2) hx hb hK hP 1 0 rfl rfl (by decide) (by decide) (by decide) dX12_comes_47 ?_
        refine va_put (D := (dC, dI)) (ci := 9) (v := .int ((m.2.2 0) 2)) (ty := .int) (C := RX12) (T := TX12) (N := 23) hx hb hts hin12 tyX12 tyX12_ok nmX12 hown hK hP (gD_va hD rfl) hS 0 rfl rfl 14 (by decide) fl119 (fun _ h9 => h9) rfl (by decide +kernel) rfl rfl (Nat.le_of_ble_eq_true rfl) dX12_comes_48 (fun H locs hP _ hS => ?_)
        obtain ⟨m_4, em_4⟩ : ∃ z9 : MS, z9 = msi m 5 ((m.2.2 0) 2) := ⟨_, rfl⟩
        have hP : va_P (dC, dI) vwCl (mw q cI m_4) H := by rw [em_4]; exact hP
        have hf := lt_eq em_4 hf
        have hok := lt_ok em_4 hok
        refine lv_iconst (v := 0) hx hb dX12_comes_51 (by decide) ?_
        refine lv_istore_n (lv' := [(3, .int 0), (0, .ref (q 0)), (1, .int a1), (2, .int a2)]) hx hb dX12_comes_52 rfl hl (by decide) rfl (fun ls hl => ?_)
        exact J_53 fu a1 a2 0 m_4 _ _ hP hS _ (lv_sub hl [1, 2, 3, 0] rfl) hf hok
      · have hf := it_eq c3 hf
        refine lv_iconst (v := 3) hx hb dX12_comes_39 (by decide) ?_
        exact e_mi C0 (hf.symm.trans hF) hP hS dX12_comes_40
    · have c2 := bz_f c2
      have hf := ie_eq c2 hf
      refine lv_iconst (v := 2) hx hb dX12_comes_26 (by decide) ?_
      exact e_mi C0 (hf.symm.trans hF) hP hS dX12_comes_27
noncomputable def pX12_walls (m : MS) (a1 : Int32) (a2 : Int32) (a3 : Int32) : Int32 × MS := if (pX12_in a1 0 1) = true then (if (pX12_isPlace a2) = true then (if (pX12_in a3 0 100) = true then (if ((m.2.2 0) 3) = 4 then ((3, m)) else (lt (msi m 5 ((m.2.2 0) 3)) fun (m_5 : MS) => lt (94 + (3 * (m_5.1 5))) fun (x6 : Int32) => lt (msa m_5 0 (upd (m_5.2.2 0) x6.toNatClampNeg a1)) fun (m_8 : MS) => lt (msa m_8 0 (upd (m_8.2.2 0) ((x6 + 1).toNatClampNeg) a2)) fun (m_10 : MS) => lt (msa m_10 0 (upd (m_10.2.2 0) ((x6 + 2).toNatClampNeg) a3)) fun (m_12 : MS) => lt (msa m_12 0 (upd (m_12.2.2 0) 3 (((m_12.2.2 0) 3) + 1))) fun (m_13 : MS) => (0, m_13))) else ((2, m))) else ((2, m))) else ((2, m))
def kX12_walls (m : MS) (a1 : Int32) (a2 : Int32) (a3 : Int32) : Prop := if (pX12_in a1 0 1) = true then (if (pX12_isPlace a2) = true then (if (pX12_in a3 0 100) = true then (if ((m.2.2 0) 3) = 4 then (True) else (lt (msi m 5 ((m.2.2 0) 3)) fun (m_5 : MS) => lt (94 + (3 * (m_5.1 5))) fun (x6 : Int32) => (vp_in x6 122) ∧ (lt (msa m_5 0 (upd (m_5.2.2 0) x6.toNatClampNeg a1)) fun (m_8 : MS) => (vp_in (x6 + 1) 122) ∧ (lt (msa m_8 0 (upd (m_8.2.2 0) ((x6 + 1).toNatClampNeg) a2)) fun (m_10 : MS) => vp_in (x6 + 2) 122)))) else (True)) else (True)) else (True)
abbrev rX12_walls : Room := { frames := 2, cells := 0, slots := 0, locals := 42 }
set_option maxHeartbeats 4000000 in
set_option maxRecDepth 100000 in
theorem mX12_walls (l : Launch) (dC : Nat → ClassId) (dI : Nat → Nat → Nat) (cI cB cO cL : ClassId) (q : Nat → Nat) (m : MS) (a1 : Int32) (a2 : Int32) (a3 : Int32) (hI : gD (fun _ => True) (mAd q)) (hok : kX12_walls m a1 a2 a3) : Met l yX12_walls wsX12_walls rX12_walls (gP (dC, dI) (tYS cI cB cO cL) (mw q cI m) [.ref (q 0), .int a1, .int a2, .int a3]) (gQi (dC, dI) (fun m9 => mw q cI m9) (wA (mw q cI m)) (pX12_walls m a1 a2 a3)) 0 0 (wA (mw q cI m)) := by
  refine gMet (cc := cX12_walls) (maxL := 5) (ret := some .int) [(0, .ref (q 0)), (1, .int a1), (2, .int a2), (3, .int a3)] (by decide) rfl rfl rfl ?_
  intro p e s mi below meth c C0 hK hP ls hl
  obtain ⟨hx, hb, hr, hml, hown, hts, hlocks⟩ := id C0
  have hown : s.vm.findClass RX12 = some mi.cls := hown
  have hS : va_S (wA (mw q cI m)) s.heap s.heap [] := va_S.rf
  have hD : gD (wA (mw q cI m)) (mAd q) := gD_wA (ws := mw q cI m) hI
  have hP : va_P (dC, dI) vwCl (mw q cI m) s.heap := hP
  obtain ⟨F, hF⟩ : ∃ F, F = pX12_walls m a1 a2 a3 := ⟨_, rfl⟩
  have hf := hF
  have hin12 : ∀ w ∈ u_ws RX12 TX12 23, w ∈ wsX12_walls := by decide +kernel
  have fl7 := hts (.fieldLink RX12 7 "ClickBenchModel" "s" "[I") (by decide +kernel)
  have fl119 := hts (.fieldLink RX12 119 "ClickBenchModel" "answer" "I") (by decide +kernel)
  refine lv_iload_n hx hb dX12_walls_0 rfl (lv_at hl 1 rfl) ?_
  refine lv_iconst (v := 0) hx hb dX12_walls_1 (by decide) ?_
  refine lv_iconst (v := 1) hx hb dX12_walls_2 (by decide) ?_
  refine gro_i (va_runS (As := [.int a1, .int 0, .int 1]) (rest := []) ⟨hx, hb, hml, hown, hts⟩ (mX12_in l dC dI cI cB cO cL  a1 0 1  ) (va_cwS 3 hts gX12_walls_X12_in rfl rfl rfl (by decide +kernel) ⟨Nat.le_of_ble_eq_true rfl, Nat.le_of_ble_eq_true rfl⟩) ⟨gP_blind, gP_ok va_P_nil hK⟩ rfl rfl hl.1 rfl (lv_room (Nat.le_of_ble_eq_true rfl)) dX12_walls_3 ⟨Nat.zero_le _, Nat.zero_le _⟩) ?_
  refine lv_if_eq (tgt := 26) hx hb dX12_walls_6 (by decide) (fun c1 => ?_) (fun c1 => ?_)
  · have c1 := bz_f c1
    have hf := ie_eq c1 hf
    refine lv_iconst (v := 2) hx hb dX12_walls_26 (by decide) ?_
    exact e_mi C0 (hf.symm.trans hF) hP hS dX12_walls_27
  · have c1 := bz_t c1
    have hf := it_eq c1 hf
    have hok := it_ok c1 hok
    refine lv_iload_n hx hb dX12_walls_9 rfl (lv_at hl 2 rfl) ?_
    refine gro_i (va_runS (As := [.int a2]) (rest := []) ⟨hx, hb, hml, hown, hts⟩ (mX12_isPlace l dC dI cI cB cO cL  a2  ) (va_cwS 1 hts gX12_walls_X12_isPlace rfl rfl rfl (by decide +kernel) ⟨Nat.le_of_ble_eq_true rfl, Nat.le_of_ble_eq_true rfl⟩) ⟨gP_blind, gP_ok va_P_nil hK⟩ rfl rfl hl.1 rfl (lv_room (Nat.le_of_ble_eq_true rfl)) dX12_walls_10 ⟨Nat.zero_le _, Nat.zero_le _⟩) ?_
    refine lv_if_eq (tgt := 26) hx hb dX12_walls_13 (by decide) (fun c2 => ?_) (fun c2 => ?_)
    · have c2 := bz_f c2
      have hf := ie_eq c2 hf
      refine lv_iconst (v := 2) hx hb dX12_walls_26 (by decide) ?_
      exact e_mi C0 (hf.symm.trans hF) hP hS dX12_walls_27
    · have c2 := bz_t c2
      have hf := it_eq c2 hf
      have hok := it_ok c2 hok
      refine lv_iload_n hx hb dX12_walls_16 rfl (lv_at hl 3 rfl) ?_
      refine lv_iconst (v := 0) hx hb dX12_walls_17 (by decide) ?_
      refine lv_bipush (v := 100) hx hb dX12_walls_18 (by decide) ?_
      refine gro_i (va_runS (As := [.int a3, .int 0, .int 100]) (rest := []) ⟨hx, hb, hml, hown, hts⟩ (mX12_in l dC dI cI cB cO cL  a3 0 100  ) (va_cwS 3 hts gX12_walls_X12_in rfl rfl rfl (by decide +kernel) ⟨Nat.le_of_ble_eq_true rfl, Nat.le_of_ble_eq_true rfl⟩) ⟨gP_blind, gP_ok va_P_nil hK⟩ rfl rfl hl.1 rfl (lv_room (Nat.le_of_ble_eq_true rfl)) dX12_walls_20 ⟨Nat.zero_le _, Nat.zero_le _⟩) ?_
      refine lv_if_ne (tgt := 28) hx hb dX12_walls_23 (by decide) (fun c3 => ?_) (fun c3 => ?_)
      · have c3 := bz_t c3
        have hf := it_eq c3 hf
        have hok := it_ok c3 hok
        refine lv_aload_n hx hb dX12_walls_28 rfl (lv_at hl 0 rfl) ?_
        refine va_get (D := (dC, dI)) (ci := 9) (v := .ref (q 1)) (C := RX12) (T := TX12) (N := 23) hx hb hts hin12 hown hK hP 0 rfl rfl 0 (by decide) fl7 (fun _ h9 => h9) rfl dX12_walls_29 ?_
        refine lv_iconst (v := 3) hx hb dX12_walls_32 (by decide) ?_
        refine g_ialdK (D := (dC, dI)) (tys := (tYS cI cB cO cL)) (k := 3) hx hb hK hP 1 0 rfl rfl (by decide) (by decide) (by decide) dX12_walls_33 ?_
        refine lv_iconst (v := 4) hx hb dX12_walls_34 (by decide) ?_
        refine lv_icmp_ne (tgt := 40) hx hb dX12_walls_35 (by decide) (fun c4 => ?_) (fun c4 => ?_)
        · have hf := ie_eq c4 hf
          have hok := ie_ok c4 hok
          refine lv_aload_n hx hb dX12_walls_40 rfl (lv_at hl 0 rfl) ?_
          refine lv_aload_n hx hb dX12_walls_41 rfl (lv_at hl 0 rfl) ?_
          refine va_get (D := (dC, dI)) (ci := 9) (v := .ref (q 1)) (C := RX12) (T := TX12) (N := 23) hx hb hts hin12 hown hK hP 0 rfl rfl 0 (by decide) fl7 (fun _ h9 => h9) rfl dX12_walls_42 ?_
          refine lv_iconst (v := 3) hx hb dX12_walls_45 (by decide) ?_
          refine g_ialdK (D := (dC, dI)) (tys := (tYS cI cB cO cL)) (k := 3) hx hb hK hP 1 0 rfl rfl (by decide) (by decide) (by decide) dX12_walls_46 ?_
          refine va_put (D := (dC, dI)) (ci := 9) (v := .int ((m.2.2 0) 3)) (ty := .int) (C := RX12) (T := TX12) (N := 23) hx hb hts hin12 tyX12 tyX12_ok nmX12 hown hK hP (gD_va hD rfl) hS 0 rfl rfl 14 (by decide) fl119 (fun _ h9 => h9) rfl (by decide +kernel) rfl rfl (Nat.le_of_ble_eq_true rfl) dX12_walls_47 (fun H locs hP _ hS => ?_)
          obtain ⟨m_5, em_5⟩ : ∃ z9 : MS, z9 = msi m 5 ((m.2.2 0) 3) := ⟨_, rfl⟩
          have hP : va_P (dC, dI) vwCl (mw q cI m_5) H := by rw [em_5]; exact hP
          have hf := lt_eq em_5 hf
          have hok := lt_ok em_5 hok
          refine lv_bipush (v := 94) hx hb dX12_walls_50 (by decide) ?_
          refine lv_iconst (v := 3) hx hb dX12_walls_52 (by decide) ?_
          refine lv_aload_n hx hb dX12_walls_53 rfl (lv_at hl 0 rfl) ?_
          refine va_get (D := (dC, dI)) (ci := 9) (v := .int (m_5.1 5)) (C := RX12) (T := TX12) (N := 23) hx hb hts hin12 hown hK hP 0 rfl rfl 14 (by decide) fl119 (fun _ h9 => h9) rfl dX12_walls_54 ?_
          refine lv_imul hx hb dX12_walls_57 ?_
          refine lv_iadd hx hb dX12_walls_58 ?_
          refine lv_topi (fun x6 ex6 => ?_)
          have hf := lt_eq ex6 hf
          have hok := lt_ok ex6 hok
          refine lv_istore (lv' := [(4, .int x6), (0, .ref (q 0)), (1, .int a1), (2, .int a2), (3, .int a3)]) hx hb dX12_walls_59 hl (by decide) rfl (fun ls hl => ?_)
          refine lv_aload_n hx hb dX12_walls_61 rfl (lv_at hl 1 rfl) ?_
          refine va_get (D := (dC, dI)) (ci := 9) (v := .ref (q 1)) (C := RX12) (T := TX12) (N := 23) hx hb hts hin12 hown hK hP 0 rfl rfl 0 (by decide) fl7 (fun _ h9 => h9) rfl dX12_walls_62 ?_
          refine lv_iload hx hb dX12_walls_65 (lv_at hl 0 rfl) ?_
          refine lv_iload_n hx hb dX12_walls_67 rfl (lv_at hl 2 rfl) ?_
          obtain ⟨h7, hok⟩ := hok
          refine va_iast (D := (dC, dI)) (tys := (tYS cI cB cO cL)) hx hb hK hP (gD_va hD rfl) hS 1 0 rfl rfl h7 dX12_walls_68 (fun H locs hP _ hS => ?_)
          obtain ⟨m_8, em_8⟩ : ∃ z9 : MS, z9 = msa m_5 0 (upd (m_5.2.2 0) x6.toNatClampNeg a1) := ⟨_, rfl⟩
          have hP : va_P (dC, dI) vwCl (mw q cI m_8) H := by rw [em_8]; exact hP
          have hf := lt_eq em_8 hf
          have hok := lt_ok em_8 hok
          refine lv_aload_n hx hb dX12_walls_69 rfl (lv_at hl 1 rfl) ?_
          refine va_get (D := (dC, dI)) (ci := 9) (v := .ref (q 1)) (C := RX12) (T := TX12) (N := 23) hx hb hts hin12 hown hK hP 0 rfl rfl 0 (by decide) fl7 (fun _ h9 => h9) rfl dX12_walls_70 ?_
          refine lv_iload hx hb dX12_walls_73 (lv_at hl 0 rfl) ?_
          refine lv_iconst (v := 1) hx hb dX12_walls_75 (by decide) ?_
          refine lv_iadd hx hb dX12_walls_76 ?_
          refine lv_iload_n hx hb dX12_walls_77 rfl (lv_at hl 3 rfl) ?_
          obtain ⟨h9, hok⟩ := hok
          refine va_iast (D := (dC, dI)) (tys := (tYS cI cB cO cL)) hx hb hK hP (gD_va hD rfl) hS 1 0 rfl rfl h9 dX12_walls_78 (fun H locs hP _ hS => ?_)
          obtain ⟨m_10, em_10⟩ : ∃ z9 : MS, z9 = msa m_8 0 (upd (m_8.2.2 0) ((x6 + 1).toNatClampNeg) a2) := ⟨_, rfl⟩
          have hP : va_P (dC, dI) vwCl (mw q cI m_10) H := by rw [em_10]; exact hP
          have hf := lt_eq em_10 hf
          have hok := lt_ok em_10 hok
          refine lv_aload_n hx hb dX12_walls_79 rfl (lv_at hl 1 rfl) ?_
          refine va_get (D := (dC, dI)) (ci := 9) (v := .ref (q 1)) (C := RX12) (T := TX12) (N := 23) hx hb hts hin12 hown hK hP 0 rfl rfl 0 (by decide) fl7 (fun _ h9 => h9) rfl dX12_walls_80 ?_
          refine lv_iload hx hb dX12_walls_83 (lv_at hl 0 rfl) ?_
          refine lv_iconst (v := 2) hx hb dX12_walls_85 (by decide) ?_
          refine lv_iadd hx hb dX12_walls_86 ?_
          refine lv_iload_n hx hb dX12_walls_87 rfl (lv_at hl 4 rfl) ?_
          have h11 : vp_in (x6 + 2) 122 := hok
          refine va_iast (D := (dC, dI)) (tys := (tYS cI cB cO cL)) hx hb hK hP (gD_va hD rfl) hS 1 0 rfl rfl h11 dX12_walls_88 (fun H locs hP _ hS => ?_)
          obtain ⟨m_12, em_12⟩ : ∃ z9 : MS, z9 = msa m_10 0 (upd (m_10.2.2 0) ((x6 + 2).toNatClampNeg) a3) := ⟨_, rfl⟩
          have hP : va_P (dC, dI) vwCl (mw q cI m_12) H := by rw [em_12]; exact hP
          have hf := lt_eq em_12 hf
          refine lv_aload_n hx hb dX12_walls_89 rfl (lv_at hl 1 rfl) ?_
          refine va_get (D := (dC, dI)) (ci := 9) (v := .ref (q 1)) (C := RX12) (T := TX12) (N := 23) hx hb hts hin12 hown hK hP 0 rfl rfl 0 (by decide) fl7 (fun _ h9 => h9) rfl dX12_walls_90 ?_
          refine lv_iconst (v := 3) hx hb dX12_walls_93 (by decide) ?_
          refine lv_dup2_11 hx hb dX12_walls_94 rfl rfl ?_
          refine g_ialdK (D := (dC, dI)) (tys := (tYS cI cB cO cL)) (k := 3) hx hb hK hP 1 0 rfl rfl (by decide) (by decide) (by decide) dX12_walls_95 ?_
          refine lv_iconst (v := 1) hx hb dX12_walls_96 (by decide) ?_
          refine lv_iadd hx hb dX12_walls_97 ?_
          refine g_iastK (D := (dC, dI)) (tys := (tYS cI cB cO cL)) (k := 3) hx hb hK hP (gD_va hD rfl) hS 1 0 rfl rfl (by decide) (by decide) (by decide) dX12_walls_98 (fun H locs hP hS => ?_)
          obtain ⟨m_13, em_13⟩ : ∃ z9 : MS, z9 = msa m_12 0 (upd (m_12.2.2 0) 3 (((m_12.2.2 0) 3) + 1)) := ⟨_, rfl⟩
          have hP : va_P (dC, dI) vwCl (mw q cI m_13) H := by rw [em_13]; exact hP
          have hf := lt_eq em_13 hf
          refine lv_iconst (v := 0) hx hb dX12_walls_99 (by decide) ?_
          exact e_mi C0 (hf.symm.trans hF) hP hS dX12_walls_100
        · have hf := it_eq c4 hf
          refine lv_iconst (v := 3) hx hb dX12_walls_38 (by decide) ?_
          exact e_mi C0 (hf.symm.trans hF) hP hS dX12_walls_39
      · have c3 := bz_f c3
        have hf := ie_eq c3 hf
        refine lv_iconst (v := 2) hx hb dX12_walls_26 (by decide) ?_
        exact e_mi C0 (hf.symm.trans hF) hP hS dX12_walls_27
noncomputable def pX12_screens (m : MS) (a1 : Int32) (a2 : Int32) (a3 : Int32) (a4 : Int32) : Int32 × MS := if (pX12_in a1 0 1) = true then (if (pX12_isPlace a2) = true then (if (pX12_isPlace a3) = true then (if (pX12_isPlace a4) = true then (if a3 < a4 then (if ((m.2.2 0) 4) = 4 then ((3, m)) else (lt (msi m 5 ((m.2.2 0) 4)) fun (m_7 : MS) => lt (106 + (4 * (m_7.1 5))) fun (x8 : Int32) => lt (msa m_7 0 (upd (m_7.2.2 0) x8.toNatClampNeg a1)) fun (m_10 : MS) => lt (msa m_10 0 (upd (m_10.2.2 0) ((x8 + 1).toNatClampNeg) a2)) fun (m_12 : MS) => lt (msa m_12 0 (upd (m_12.2.2 0) ((x8 + 2).toNatClampNeg) a3)) fun (m_14 : MS) => lt (msa m_14 0 (upd (m_14.2.2 0) ((x8 + 3).toNatClampNeg) a4)) fun (m_16 : MS) => lt (msa m_16 0 (upd (m_16.2.2 0) 4 (((m_16.2.2 0) 4) + 1))) fun (m_17 : MS) => (0, m_17))) else ((2, m))) else ((2, m))) else ((2, m))) else ((2, m))) else ((2, m))
def kX12_screens (m : MS) (a1 : Int32) (a2 : Int32) (a3 : Int32) (a4 : Int32) : Prop := if (pX12_in a1 0 1) = true then (if (pX12_isPlace a2) = true then (if (pX12_isPlace a3) = true then (if (pX12_isPlace a4) = true then (if a3 < a4 then (if ((m.2.2 0) 4) = 4 then (True) else (lt (msi m 5 ((m.2.2 0) 4)) fun (m_7 : MS) => lt (106 + (4 * (m_7.1 5))) fun (x8 : Int32) => (vp_in x8 122) ∧ (lt (msa m_7 0 (upd (m_7.2.2 0) x8.toNatClampNeg a1)) fun (m_10 : MS) => (vp_in (x8 + 1) 122) ∧ (lt (msa m_10 0 (upd (m_10.2.2 0) ((x8 + 1).toNatClampNeg) a2)) fun (m_12 : MS) => (vp_in (x8 + 2) 122) ∧ (lt (msa m_12 0 (upd (m_12.2.2 0) ((x8 + 2).toNatClampNeg) a3)) fun (m_14 : MS) => vp_in (x8 + 3) 122))))) else (True)) else (True)) else (True)) else (True)) else (True)
abbrev rX12_screens : Room := { frames := 2, cells := 0, slots := 0, locals := 42 }
set_option maxHeartbeats 4000000 in
set_option maxRecDepth 100000 in
theorem mX12_screens (l : Launch) (dC : Nat → ClassId) (dI : Nat → Nat → Nat) (cI cB cO cL : ClassId) (q : Nat → Nat) (m : MS) (a1 : Int32) (a2 : Int32) (a3 : Int32) (a4 : Int32) (hI : gD (fun _ => True) (mAd q)) (hok : kX12_screens m a1 a2 a3 a4) : Met l yX12_screens wsX12_screens rX12_screens (gP (dC, dI) (tYS cI cB cO cL) (mw q cI m) [.ref (q 0), .int a1, .int a2, .int a3, .int a4]) (gQi (dC, dI) (fun m9 => mw q cI m9) (wA (mw q cI m)) (pX12_screens m a1 a2 a3 a4)) 0 0 (wA (mw q cI m)) := by
  refine gMet (cc := cX12_screens) (maxL := 6) (ret := some .int) [(0, .ref (q 0)), (1, .int a1), (2, .int a2), (3, .int a3), (4, .int a4)] (by decide) rfl rfl rfl ?_
  intro p e s mi below meth c C0 hK hP ls hl
  obtain ⟨hx, hb, hr, hml, hown, hts, hlocks⟩ := id C0
  have hown : s.vm.findClass RX12 = some mi.cls := hown
  have hS : va_S (wA (mw q cI m)) s.heap s.heap [] := va_S.rf
  have hD : gD (wA (mw q cI m)) (mAd q) := gD_wA (ws := mw q cI m) hI
  have hP : va_P (dC, dI) vwCl (mw q cI m) s.heap := hP
  obtain ⟨F, hF⟩ : ∃ F, F = pX12_screens m a1 a2 a3 a4 := ⟨_, rfl⟩
  have hf := hF
  have hin12 : ∀ w ∈ u_ws RX12 TX12 23, w ∈ wsX12_screens := by decide +kernel
  have fl7 := hts (.fieldLink RX12 7 "ClickBenchModel" "s" "[I") (by decide +kernel)
  have fl119 := hts (.fieldLink RX12 119 "ClickBenchModel" "answer" "I") (by decide +kernel)
  refine lv_iload_n hx hb dX12_screens_0 rfl (lv_at hl 1 rfl) ?_
  refine lv_iconst (v := 0) hx hb dX12_screens_1 (by decide) ?_
  refine lv_iconst (v := 1) hx hb dX12_screens_2 (by decide) ?_
  refine gro_i (va_runS (As := [.int a1, .int 0, .int 1]) (rest := []) ⟨hx, hb, hml, hown, hts⟩ (mX12_in l dC dI cI cB cO cL  a1 0 1  ) (va_cwS 3 hts gX12_screens_X12_in rfl rfl rfl (by decide +kernel) ⟨Nat.le_of_ble_eq_true rfl, Nat.le_of_ble_eq_true rfl⟩) ⟨gP_blind, gP_ok va_P_nil hK⟩ rfl rfl hl.1 rfl (lv_room (Nat.le_of_ble_eq_true rfl)) dX12_screens_3 ⟨Nat.zero_le _, Nat.zero_le _⟩) ?_
  refine lv_if_eq (tgt := 37) hx hb dX12_screens_6 (by decide) (fun c1 => ?_) (fun c1 => ?_)
  · have c1 := bz_f c1
    have hf := ie_eq c1 hf
    refine lv_iconst (v := 2) hx hb dX12_screens_37 (by decide) ?_
    exact e_mi C0 (hf.symm.trans hF) hP hS dX12_screens_38
  · have c1 := bz_t c1
    have hf := it_eq c1 hf
    have hok := it_ok c1 hok
    refine lv_iload_n hx hb dX12_screens_9 rfl (lv_at hl 2 rfl) ?_
    refine gro_i (va_runS (As := [.int a2]) (rest := []) ⟨hx, hb, hml, hown, hts⟩ (mX12_isPlace l dC dI cI cB cO cL  a2  ) (va_cwS 1 hts gX12_screens_X12_isPlace rfl rfl rfl (by decide +kernel) ⟨Nat.le_of_ble_eq_true rfl, Nat.le_of_ble_eq_true rfl⟩) ⟨gP_blind, gP_ok va_P_nil hK⟩ rfl rfl hl.1 rfl (lv_room (Nat.le_of_ble_eq_true rfl)) dX12_screens_10 ⟨Nat.zero_le _, Nat.zero_le _⟩) ?_
    refine lv_if_eq (tgt := 37) hx hb dX12_screens_13 (by decide) (fun c2 => ?_) (fun c2 => ?_)
    · have c2 := bz_f c2
      have hf := ie_eq c2 hf
      refine lv_iconst (v := 2) hx hb dX12_screens_37 (by decide) ?_
      exact e_mi C0 (hf.symm.trans hF) hP hS dX12_screens_38
    · have c2 := bz_t c2
      have hf := it_eq c2 hf
      have hok := it_ok c2 hok
      refine lv_iload_n hx hb dX12_screens_16 rfl (lv_at hl 3 rfl) ?_
      refine gro_i (va_runS (As := [.int a3]) (rest := []) ⟨hx, hb, hml, hown, hts⟩ (mX12_isPlace l dC dI cI cB cO cL  a3  ) (va_cwS 1 hts gX12_screens_X12_isPlace rfl rfl rfl (by decide +kernel) ⟨Nat.le_of_ble_eq_true rfl, Nat.le_of_ble_eq_true rfl⟩) ⟨gP_blind, gP_ok va_P_nil hK⟩ rfl rfl hl.1 rfl (lv_room (Nat.le_of_ble_eq_true rfl)) dX12_screens_17 ⟨Nat.zero_le _, Nat.zero_le _⟩) ?_
      refine lv_if_eq (tgt := 37) hx hb dX12_screens_20 (by decide) (fun c3 => ?_) (fun c3 => ?_)
      · have c3 := bz_f c3
        have hf := ie_eq c3 hf
        refine lv_iconst (v := 2) hx hb dX12_screens_37 (by decide) ?_
        exact e_mi C0 (hf.symm.trans hF) hP hS dX12_screens_38
      · have c3 := bz_t c3
        have hf := it_eq c3 hf
        have hok := it_ok c3 hok
        refine lv_iload hx hb dX12_screens_23 (lv_at hl 4 rfl) ?_
        refine gro_i (va_runS (As := [.int a4]) (rest := []) ⟨hx, hb, hml, hown, hts⟩ (mX12_isPlace l dC dI cI cB cO cL  a4  ) (va_cwS 1 hts gX12_screens_X12_isPlace rfl rfl rfl (by decide +kernel) ⟨Nat.le_of_ble_eq_true rfl, Nat.le_of_ble_eq_true rfl⟩) ⟨gP_blind, gP_ok va_P_nil hK⟩ rfl rfl hl.1 rfl (lv_room (Nat.le_of_ble_eq_true rfl)) dX12_screens_25 ⟨Nat.zero_le _, Nat.zero_le _⟩) ?_
        refine lv_if_eq (tgt := 37) hx hb dX12_screens_28 (by decide) (fun c4 => ?_) (fun c4 => ?_)
        · have c4 := bz_f c4
          have hf := ie_eq c4 hf
          refine lv_iconst (v := 2) hx hb dX12_screens_37 (by decide) ?_
          exact e_mi C0 (hf.symm.trans hF) hP hS dX12_screens_38
        · have c4 := bz_t c4
          have hf := it_eq c4 hf
          have hok := it_ok c4 hok
          refine lv_iload hx hb dX12_screens_31 (lv_at hl 4 rfl) ?_
          refine lv_iload_n hx hb dX12_screens_33 rfl (lv_at hl 3 rfl) ?_
          refine lv_icmp_gt (tgt := 39) hx hb dX12_screens_34 (by decide) (fun c5 => ?_) (fun c5 => ?_)
          · have hf := it_eq c5 hf
            have hok := it_ok c5 hok
            refine lv_aload_n hx hb dX12_screens_39 rfl (lv_at hl 0 rfl) ?_
            refine va_get (D := (dC, dI)) (ci := 9) (v := .ref (q 1)) (C := RX12) (T := TX12) (N := 23) hx hb hts hin12 hown hK hP 0 rfl rfl 0 (by decide) fl7 (fun _ h9 => h9) rfl dX12_screens_40 ?_
            refine lv_iconst (v := 4) hx hb dX12_screens_43 (by decide) ?_
            refine g_ialdK (D := (dC, dI)) (tys := (tYS cI cB cO cL)) (k := 4) hx hb hK hP 1 0 rfl rfl (by decide) (by decide) (by decide) dX12_screens_44 ?_
            refine lv_iconst (v := 4) hx hb dX12_screens_45 (by decide) ?_
            refine lv_icmp_ne (tgt := 51) hx hb dX12_screens_46 (by decide) (fun c6 => ?_) (fun c6 => ?_)
            · have hf := ie_eq c6 hf
              have hok := ie_ok c6 hok
              refine lv_aload_n hx hb dX12_screens_51 rfl (lv_at hl 0 rfl) ?_
              refine lv_aload_n hx hb dX12_screens_52 rfl (lv_at hl 0 rfl) ?_
              refine va_get (D := (dC, dI)) (ci := 9) (v := .ref (q 1)) (C := RX12) (T := TX12) (N := 23) hx hb hts hin12 hown hK hP 0 rfl rfl 0 (by decide) fl7 (fun _ h9 => h9) rfl dX12_screens_53 ?_
              refine lv_iconst (v := 4) hx hb dX12_screens_56 (by decide) ?_
              refine g_ialdK (D := (dC, dI)) (tys := (tYS cI cB cO cL)) (k := 4) hx hb hK hP 1 0 rfl rfl (by decide) (by decide) (by decide) dX12_screens_57 ?_
              refine va_put (D := (dC, dI)) (ci := 9) (v := .int ((m.2.2 0) 4)) (ty := .int) (C := RX12) (T := TX12) (N := 23) hx hb hts hin12 tyX12 tyX12_ok nmX12 hown hK hP (gD_va hD rfl) hS 0 rfl rfl 14 (by decide) fl119 (fun _ h9 => h9) rfl (by decide +kernel) rfl rfl (Nat.le_of_ble_eq_true rfl) dX12_screens_58 (fun H locs hP _ hS => ?_)
              obtain ⟨m_7, em_7⟩ : ∃ z9 : MS, z9 = msi m 5 ((m.2.2 0) 4) := ⟨_, rfl⟩
              have hP : va_P (dC, dI) vwCl (mw q cI m_7) H := by rw [em_7]; exact hP
              have hf := lt_eq em_7 hf
              have hok := lt_ok em_7 hok
              refine lv_bipush (v := 106) hx hb dX12_screens_61 (by decide) ?_
              refine lv_iconst (v := 4) hx hb dX12_screens_63 (by decide) ?_
              refine lv_aload_n hx hb dX12_screens_64 rfl (lv_at hl 0 rfl) ?_
              refine va_get (D := (dC, dI)) (ci := 9) (v := .int (m_7.1 5)) (C := RX12) (T := TX12) (N := 23) hx hb hts hin12 hown hK hP 0 rfl rfl 14 (by decide) fl119 (fun _ h9 => h9) rfl dX12_screens_65 ?_
              refine lv_imul hx hb dX12_screens_68 ?_
              refine lv_iadd hx hb dX12_screens_69 ?_
              refine lv_topi (fun x8 ex8 => ?_)
              have hf := lt_eq ex8 hf
              have hok := lt_ok ex8 hok
              refine lv_istore (lv' := [(5, .int x8), (0, .ref (q 0)), (1, .int a1), (2, .int a2), (3, .int a3), (4, .int a4)]) hx hb dX12_screens_70 hl (by decide) rfl (fun ls hl => ?_)
              refine lv_aload_n hx hb dX12_screens_72 rfl (lv_at hl 1 rfl) ?_
              refine va_get (D := (dC, dI)) (ci := 9) (v := .ref (q 1)) (C := RX12) (T := TX12) (N := 23) hx hb hts hin12 hown hK hP 0 rfl rfl 0 (by decide) fl7 (fun _ h9 => h9) rfl dX12_screens_73 ?_
              refine lv_iload hx hb dX12_screens_76 (lv_at hl 0 rfl) ?_
              refine lv_iload_n hx hb dX12_screens_78 rfl (lv_at hl 2 rfl) ?_
              obtain ⟨h9, hok⟩ := hok
              refine va_iast (D := (dC, dI)) (tys := (tYS cI cB cO cL)) hx hb hK hP (gD_va hD rfl) hS 1 0 rfl rfl h9 dX12_screens_79 (fun H locs hP _ hS => ?_)
              obtain ⟨m_10, em_10⟩ : ∃ z9 : MS, z9 = msa m_7 0 (upd (m_7.2.2 0) x8.toNatClampNeg a1) := ⟨_, rfl⟩
              have hP : va_P (dC, dI) vwCl (mw q cI m_10) H := by rw [em_10]; exact hP
              have hf := lt_eq em_10 hf
              have hok := lt_ok em_10 hok
              refine lv_aload_n hx hb dX12_screens_80 rfl (lv_at hl 1 rfl) ?_
              refine va_get (D := (dC, dI)) (ci := 9) (v := .ref (q 1)) (C := RX12) (T := TX12) (N := 23) hx hb hts hin12 hown hK hP 0 rfl rfl 0 (by decide) fl7 (fun _ h9 => h9) rfl dX12_screens_81 ?_
              refine lv_iload hx hb dX12_screens_84 (lv_at hl 0 rfl) ?_
              refine lv_iconst (v := 1) hx hb dX12_screens_86 (by decide) ?_
              refine lv_iadd hx hb dX12_screens_87 ?_
              refine lv_iload_n hx hb dX12_screens_88 rfl (lv_at hl 3 rfl) ?_
              obtain ⟨h11, hok⟩ := hok
              refine va_iast (D := (dC, dI)) (tys := (tYS cI cB cO cL)) hx hb hK hP (gD_va hD rfl) hS 1 0 rfl rfl h11 dX12_screens_89 (fun H locs hP _ hS => ?_)
              obtain ⟨m_12, em_12⟩ : ∃ z9 : MS, z9 = msa m_10 0 (upd (m_10.2.2 0) ((x8 + 1).toNatClampNeg) a2) := ⟨_, rfl⟩
              have hP : va_P (dC, dI) vwCl (mw q cI m_12) H := by rw [em_12]; exact hP
              have hf := lt_eq em_12 hf
              have hok := lt_ok em_12 hok
              refine lv_aload_n hx hb dX12_screens_90 rfl (lv_at hl 1 rfl) ?_
              refine va_get (D := (dC, dI)) (ci := 9) (v := .ref (q 1)) (C := RX12) (T := TX12) (N := 23) hx hb hts hin12 hown hK hP 0 rfl rfl 0 (by decide) fl7 (fun _ h9 => h9) rfl dX12_screens_91 ?_
              refine lv_iload hx hb dX12_screens_94 (lv_at hl 0 rfl) ?_
              refine lv_iconst (v := 2) hx hb dX12_screens_96 (by decide) ?_
              refine lv_iadd hx hb dX12_screens_97 ?_
              refine lv_iload_n hx hb dX12_screens_98 rfl (lv_at hl 4 rfl) ?_
              obtain ⟨h13, hok⟩ := hok
              refine va_iast (D := (dC, dI)) (tys := (tYS cI cB cO cL)) hx hb hK hP (gD_va hD rfl) hS 1 0 rfl rfl h13 dX12_screens_99 (fun H locs hP _ hS => ?_)
              obtain ⟨m_14, em_14⟩ : ∃ z9 : MS, z9 = msa m_12 0 (upd (m_12.2.2 0) ((x8 + 2).toNatClampNeg) a3) := ⟨_, rfl⟩
              have hP : va_P (dC, dI) vwCl (mw q cI m_14) H := by rw [em_14]; exact hP
              have hf := lt_eq em_14 hf
              have hok := lt_ok em_14 hok
              refine lv_aload_n hx hb dX12_screens_100 rfl (lv_at hl 1 rfl) ?_
              refine va_get (D := (dC, dI)) (ci := 9) (v := .ref (q 1)) (C := RX12) (T := TX12) (N := 23) hx hb hts hin12 hown hK hP 0 rfl rfl 0 (by decide) fl7 (fun _ h9 => h9) rfl dX12_screens_101 ?_
              refine lv_iload hx hb dX12_screens_104 (lv_at hl 0 rfl) ?_
              refine lv_iconst (v := 3) hx hb dX12_screens_106 (by decide) ?_
              refine lv_iadd hx hb dX12_screens_107 ?_
              refine lv_iload hx hb dX12_screens_108 (lv_at hl 5 rfl) ?_
              have h15 : vp_in (x8 + 3) 122 := hok
              refine va_iast (D := (dC, dI)) (tys := (tYS cI cB cO cL)) hx hb hK hP (gD_va hD rfl) hS 1 0 rfl rfl h15 dX12_screens_110 (fun H locs hP _ hS => ?_)
              obtain ⟨m_16, em_16⟩ : ∃ z9 : MS, z9 = msa m_14 0 (upd (m_14.2.2 0) ((x8 + 3).toNatClampNeg) a4) := ⟨_, rfl⟩
              have hP : va_P (dC, dI) vwCl (mw q cI m_16) H := by rw [em_16]; exact hP
              have hf := lt_eq em_16 hf
              refine lv_aload_n hx hb dX12_screens_111 rfl (lv_at hl 1 rfl) ?_
              refine va_get (D := (dC, dI)) (ci := 9) (v := .ref (q 1)) (C := RX12) (T := TX12) (N := 23) hx hb hts hin12 hown hK hP 0 rfl rfl 0 (by decide) fl7 (fun _ h9 => h9) rfl dX12_screens_112 ?_
              refine lv_iconst (v := 4) hx hb dX12_screens_115 (by decide) ?_
              refine lv_dup2_11 hx hb dX12_screens_116 rfl rfl ?_
              refine g_ialdK (D := (dC, dI)) (tys := (tYS cI cB cO cL)) (k := 4) hx hb hK hP 1 0 rfl rfl (by decide) (by decide) (by decide) dX12_screens_117 ?_
              refine lv_iconst (v := 1) hx hb dX12_screens_118 (by decide) ?_
              refine lv_iadd hx hb dX12_screens_119 ?_
              refine g_iastK (D := (dC, dI)) (tys := (tYS cI cB cO cL)) (k := 4) hx hb hK hP (gD_va hD rfl) hS 1 0 rfl rfl (by decide) (by decide) (by decide) dX12_screens_120 (fun H locs hP hS => ?_)
              obtain ⟨m_17, em_17⟩ : ∃ z9 : MS, z9 = msa m_16 0 (upd (m_16.2.2 0) 4 (((m_16.2.2 0) 4) + 1)) := ⟨_, rfl⟩
              have hP : va_P (dC, dI) vwCl (mw q cI m_17) H := by rw [em_17]; exact hP
              have hf := lt_eq em_17 hf
              refine lv_iconst (v := 0) hx hb dX12_screens_121 (by decide) ?_
              exact e_mi C0 (hf.symm.trans hF) hP hS dX12_screens_122
            · have hf := it_eq c6 hf
              refine lv_iconst (v := 3) hx hb dX12_screens_49 (by decide) ?_
              exact e_mi C0 (hf.symm.trans hF) hP hS dX12_screens_50
          · have hf := ie_eq c5 hf
            refine lv_iconst (v := 2) hx hb dX12_screens_37 (by decide) ?_
            exact e_mi C0 (hf.symm.trans hF) hP hS dX12_screens_38
noncomputable def pX12_isSetting (a1 : Int32) (a2 : Int32) : Bool := if a1 = 0 then (pX12_in a2 100 1000) else (if a1 = 1 then (pX12_in a2 1 2) else (if a1 = 2 then (pX12_in a2 0 100) else (if a1 = 3 then (pX12_in a2 0 50) else (if a1 = 4 then (pX12_in a2 0 1000) else (if a1 = 5 then (pX12_in a2 0 1) else (if a1 = 6 then (pX12_in a2 0 500) else (false)))))))
abbrev rX12_isSetting : Room := { frames := 1, cells := 0, slots := 0, locals := 22 }
set_option maxHeartbeats 4000000 in
set_option maxRecDepth 100000 in
theorem mX12_isSetting (l : Launch) (dC : Nat → ClassId) (dI : Nat → Nat → Nat) (cI cB cO cL : ClassId)  (a1 : Int32) (a2 : Int32) : Met l yX12_isSetting wsX12_isSetting rX12_isSetting (gP (dC, dI) (tYS cI cB cO cL) ([]) [.int a1, .int a2]) (gRz (pX12_isSetting a1 a2)) 0 0 (fun _ => False) := by
  refine gMet (cc := cX12_isSetting) (maxL := 2) (ret := some .boolean) [(0, .int a1), (1, .int a2)] (by decide) rfl rfl rfl ?_
  intro p e s mi below meth c C0 hK hP ls hl
  obtain ⟨hx, hb, hr, hml, hown, hts, hlocks⟩ := id C0
  have hown : s.vm.findClass RX12 = some mi.cls := hown
  obtain ⟨F, hF⟩ : ∃ F, F = pX12_isSetting a1 a2 := ⟨_, rfl⟩
  have hf := hF
  refine lv_iload_n hx hb dX12_isSetting_0 rfl (lv_at hl 0 rfl) ?_
  by_cases c1 : a1 = 0
  · have hf := it_eq c1 hf
    refine lv_tableIn (tgt := 44) (off := 43) hx hb dX12_isSetting_1 (by rw [c1]; decide) (by rw [c1]; decide) (by rw [c1]; rfl) (by decide) ?_
    refine lv_iload_n hx hb dX12_isSetting_44 rfl (lv_at hl 1 rfl) ?_
    refine lv_bipush (v := 100) hx hb dX12_isSetting_45 (by decide) ?_
    refine lv_sipush (v := 1000) hx hb dX12_isSetting_47 (by decide) ?_
    refine gro_i (va_runS (As := [.int a2, .int 100, .int 1000]) (rest := []) ⟨hx, hb, hml, hown, hts⟩ (mX12_in l dC dI cI cB cO cL  a2 100 1000  ) (va_cwS 3 hts gX12_isSetting_X12_in rfl rfl rfl (by decide +kernel) ⟨Nat.le_of_ble_eq_true rfl, Nat.le_of_ble_eq_true rfl⟩) ⟨gP_blind, gP_ok va_P_nil hK⟩ rfl rfl hl.1 rfl (lv_room (Nat.le_of_ble_eq_true rfl)) dX12_isSetting_50 ⟨Nat.zero_le _, Nat.zero_le _⟩) ?_
    exact e_rz C0 (b := (pX12_in a2 100 1000)) rfl (hf.symm.trans hF) dX12_isSetting_53
  · have hf := ie_eq c1 hf
    by_cases c2 : a1 = 1
    · have hf := it_eq c2 hf
      refine lv_tableIn (tgt := 54) (off := 53) hx hb dX12_isSetting_1 (by rw [c2]; decide) (by rw [c2]; decide) (by rw [c2]; rfl) (by decide) ?_
      refine lv_iload_n hx hb dX12_isSetting_54 rfl (lv_at hl 1 rfl) ?_
      refine lv_iconst (v := 1) hx hb dX12_isSetting_55 (by decide) ?_
      refine lv_iconst (v := 2) hx hb dX12_isSetting_56 (by decide) ?_
      refine gro_i (va_runS (As := [.int a2, .int 1, .int 2]) (rest := []) ⟨hx, hb, hml, hown, hts⟩ (mX12_in l dC dI cI cB cO cL  a2 1 2  ) (va_cwS 3 hts gX12_isSetting_X12_in rfl rfl rfl (by decide +kernel) ⟨Nat.le_of_ble_eq_true rfl, Nat.le_of_ble_eq_true rfl⟩) ⟨gP_blind, gP_ok va_P_nil hK⟩ rfl rfl hl.1 rfl (lv_room (Nat.le_of_ble_eq_true rfl)) dX12_isSetting_57 ⟨Nat.zero_le _, Nat.zero_le _⟩) ?_
      exact e_rz C0 (b := (pX12_in a2 1 2)) rfl (hf.symm.trans hF) dX12_isSetting_60
    · have hf := ie_eq c2 hf
      by_cases c3 : a1 = 2
      · have hf := it_eq c3 hf
        refine lv_tableIn (tgt := 61) (off := 60) hx hb dX12_isSetting_1 (by rw [c3]; decide) (by rw [c3]; decide) (by rw [c3]; rfl) (by decide) ?_
        refine lv_iload_n hx hb dX12_isSetting_61 rfl (lv_at hl 1 rfl) ?_
        refine lv_iconst (v := 0) hx hb dX12_isSetting_62 (by decide) ?_
        refine lv_bipush (v := 100) hx hb dX12_isSetting_63 (by decide) ?_
        refine gro_i (va_runS (As := [.int a2, .int 0, .int 100]) (rest := []) ⟨hx, hb, hml, hown, hts⟩ (mX12_in l dC dI cI cB cO cL  a2 0 100  ) (va_cwS 3 hts gX12_isSetting_X12_in rfl rfl rfl (by decide +kernel) ⟨Nat.le_of_ble_eq_true rfl, Nat.le_of_ble_eq_true rfl⟩) ⟨gP_blind, gP_ok va_P_nil hK⟩ rfl rfl hl.1 rfl (lv_room (Nat.le_of_ble_eq_true rfl)) dX12_isSetting_65 ⟨Nat.zero_le _, Nat.zero_le _⟩) ?_
        exact e_rz C0 (b := (pX12_in a2 0 100)) rfl (hf.symm.trans hF) dX12_isSetting_68
      · have hf := ie_eq c3 hf
        by_cases c4 : a1 = 3
        · have hf := it_eq c4 hf
          refine lv_tableIn (tgt := 69) (off := 68) hx hb dX12_isSetting_1 (by rw [c4]; decide) (by rw [c4]; decide) (by rw [c4]; rfl) (by decide) ?_
          refine lv_iload_n hx hb dX12_isSetting_69 rfl (lv_at hl 1 rfl) ?_
          refine lv_iconst (v := 0) hx hb dX12_isSetting_70 (by decide) ?_
          refine lv_bipush (v := 50) hx hb dX12_isSetting_71 (by decide) ?_
          refine gro_i (va_runS (As := [.int a2, .int 0, .int 50]) (rest := []) ⟨hx, hb, hml, hown, hts⟩ (mX12_in l dC dI cI cB cO cL  a2 0 50  ) (va_cwS 3 hts gX12_isSetting_X12_in rfl rfl rfl (by decide +kernel) ⟨Nat.le_of_ble_eq_true rfl, Nat.le_of_ble_eq_true rfl⟩) ⟨gP_blind, gP_ok va_P_nil hK⟩ rfl rfl hl.1 rfl (lv_room (Nat.le_of_ble_eq_true rfl)) dX12_isSetting_73 ⟨Nat.zero_le _, Nat.zero_le _⟩) ?_
          exact e_rz C0 (b := (pX12_in a2 0 50)) rfl (hf.symm.trans hF) dX12_isSetting_76
        · have hf := ie_eq c4 hf
          by_cases c5 : a1 = 4
          · have hf := it_eq c5 hf
            refine lv_tableIn (tgt := 77) (off := 76) hx hb dX12_isSetting_1 (by rw [c5]; decide) (by rw [c5]; decide) (by rw [c5]; rfl) (by decide) ?_
            refine lv_iload_n hx hb dX12_isSetting_77 rfl (lv_at hl 1 rfl) ?_
            refine lv_iconst (v := 0) hx hb dX12_isSetting_78 (by decide) ?_
            refine lv_sipush (v := 1000) hx hb dX12_isSetting_79 (by decide) ?_
            refine gro_i (va_runS (As := [.int a2, .int 0, .int 1000]) (rest := []) ⟨hx, hb, hml, hown, hts⟩ (mX12_in l dC dI cI cB cO cL  a2 0 1000  ) (va_cwS 3 hts gX12_isSetting_X12_in rfl rfl rfl (by decide +kernel) ⟨Nat.le_of_ble_eq_true rfl, Nat.le_of_ble_eq_true rfl⟩) ⟨gP_blind, gP_ok va_P_nil hK⟩ rfl rfl hl.1 rfl (lv_room (Nat.le_of_ble_eq_true rfl)) dX12_isSetting_82 ⟨Nat.zero_le _, Nat.zero_le _⟩) ?_
            exact e_rz C0 (b := (pX12_in a2 0 1000)) rfl (hf.symm.trans hF) dX12_isSetting_85
          · have hf := ie_eq c5 hf
            by_cases c6 : a1 = 5
            · have hf := it_eq c6 hf
              refine lv_tableIn (tgt := 86) (off := 85) hx hb dX12_isSetting_1 (by rw [c6]; decide) (by rw [c6]; decide) (by rw [c6]; rfl) (by decide) ?_
              refine lv_iload_n hx hb dX12_isSetting_86 rfl (lv_at hl 1 rfl) ?_
              refine lv_iconst (v := 0) hx hb dX12_isSetting_87 (by decide) ?_
              refine lv_iconst (v := 1) hx hb dX12_isSetting_88 (by decide) ?_
              refine gro_i (va_runS (As := [.int a2, .int 0, .int 1]) (rest := []) ⟨hx, hb, hml, hown, hts⟩ (mX12_in l dC dI cI cB cO cL  a2 0 1  ) (va_cwS 3 hts gX12_isSetting_X12_in rfl rfl rfl (by decide +kernel) ⟨Nat.le_of_ble_eq_true rfl, Nat.le_of_ble_eq_true rfl⟩) ⟨gP_blind, gP_ok va_P_nil hK⟩ rfl rfl hl.1 rfl (lv_room (Nat.le_of_ble_eq_true rfl)) dX12_isSetting_89 ⟨Nat.zero_le _, Nat.zero_le _⟩) ?_
              exact e_rz C0 (b := (pX12_in a2 0 1)) rfl (hf.symm.trans hF) dX12_isSetting_92
            · have hf := ie_eq c6 hf
              by_cases c7 : a1 = 6
              · have hf := it_eq c7 hf
                refine lv_tableIn (tgt := 93) (off := 92) hx hb dX12_isSetting_1 (by rw [c7]; decide) (by rw [c7]; decide) (by rw [c7]; rfl) (by decide) ?_
                refine lv_iload_n hx hb dX12_isSetting_93 rfl (lv_at hl 1 rfl) ?_
                refine lv_iconst (v := 0) hx hb dX12_isSetting_94 (by decide) ?_
                refine lv_sipush (v := 500) hx hb dX12_isSetting_95 (by decide) ?_
                refine gro_i (va_runS (As := [.int a2, .int 0, .int 500]) (rest := []) ⟨hx, hb, hml, hown, hts⟩ (mX12_in l dC dI cI cB cO cL  a2 0 500  ) (va_cwS 3 hts gX12_isSetting_X12_in rfl rfl rfl (by decide +kernel) ⟨Nat.le_of_ble_eq_true rfl, Nat.le_of_ble_eq_true rfl⟩) ⟨gP_blind, gP_ok va_P_nil hK⟩ rfl rfl hl.1 rfl (lv_room (Nat.le_of_ble_eq_true rfl)) dX12_isSetting_98 ⟨Nat.zero_le _, Nat.zero_le _⟩) ?_
                exact e_rz C0 (b := (pX12_in a2 0 500)) rfl (hf.symm.trans hF) dX12_isSetting_101
              · have hf := ie_eq c7 hf
                refine lv_tableOut (tgt := 102) hx hb dX12_isSetting_1 (by have h0_ := i32_ne (n := 0) rfl c1; have h1_ := i32_ne (n := 1) rfl c2; have h2_ := i32_ne (n := 2) rfl c3; have h3_ := i32_ne (n := 3) rfl c4; have h4_ := i32_ne (n := 4) rfl c5; have h5_ := i32_ne (n := 5) rfl c6; have h6_ := i32_ne (n := 6) rfl c7; omega) (by decide) ?_
                refine lv_iconst (v := 0) hx hb dX12_isSetting_102 (by decide) ?_
                exact e_rz C0 (b := false) rfl (hf.symm.trans hF) dX12_isSetting_103
noncomputable def pX12_sets (m : MS) (a1 : Int32) (a2 : Int32) : Int32 × MS := if (pX12_isSetting a1 a2) = true then (lt (msi m 5 ((m.2.2 0) ((7 + a1).toNatClampNeg))) fun (m_2 : MS) => lt (msa m_2 0 (upd (m_2.2.2 0) ((7 + a1).toNatClampNeg) a2)) fun (m_4 : MS) => (0, m_4)) else ((2, m))
def kX12_sets (m : MS) (a1 : Int32) (a2 : Int32) : Prop := if (pX12_isSetting a1 a2) = true then ((vp_in (7 + a1) 122) ∧ (lt (msi m 5 ((m.2.2 0) ((7 + a1).toNatClampNeg))) fun (m_2 : MS) => vp_in (7 + a1) 122)) else (True)
abbrev rX12_sets : Room := { frames := 2, cells := 0, slots := 0, locals := 43 }
set_option maxHeartbeats 4000000 in
set_option maxRecDepth 100000 in
theorem mX12_sets (l : Launch) (dC : Nat → ClassId) (dI : Nat → Nat → Nat) (cI cB cO cL : ClassId) (q : Nat → Nat) (m : MS) (a1 : Int32) (a2 : Int32) (hI : gD (fun _ => True) (mAd q)) (hok : kX12_sets m a1 a2) : Met l yX12_sets wsX12_sets rX12_sets (gP (dC, dI) (tYS cI cB cO cL) (mw q cI m) [.ref (q 0), .int a1, .int a2]) (gQi (dC, dI) (fun m9 => mw q cI m9) (wA (mw q cI m)) (pX12_sets m a1 a2)) 0 0 (wA (mw q cI m)) := by
  refine gMet (cc := cX12_sets) (maxL := 3) (ret := some .int) [(0, .ref (q 0)), (1, .int a1), (2, .int a2)] (by decide) rfl rfl rfl ?_
  intro p e s mi below meth c C0 hK hP ls hl
  obtain ⟨hx, hb, hr, hml, hown, hts, hlocks⟩ := id C0
  have hown : s.vm.findClass RX12 = some mi.cls := hown
  have hS : va_S (wA (mw q cI m)) s.heap s.heap [] := va_S.rf
  have hD : gD (wA (mw q cI m)) (mAd q) := gD_wA (ws := mw q cI m) hI
  have hP : va_P (dC, dI) vwCl (mw q cI m) s.heap := hP
  obtain ⟨F, hF⟩ : ∃ F, F = pX12_sets m a1 a2 := ⟨_, rfl⟩
  have hf := hF
  have hin12 : ∀ w ∈ u_ws RX12 TX12 23, w ∈ wsX12_sets := by decide +kernel
  have fl7 := hts (.fieldLink RX12 7 "ClickBenchModel" "s" "[I") (by decide +kernel)
  have fl119 := hts (.fieldLink RX12 119 "ClickBenchModel" "answer" "I") (by decide +kernel)
  refine lv_iload_n hx hb dX12_sets_0 rfl (lv_at hl 1 rfl) ?_
  refine lv_iload_n hx hb dX12_sets_1 rfl (lv_at hl 2 rfl) ?_
  refine gro_i (va_runS (As := [.int a1, .int a2]) (rest := []) ⟨hx, hb, hml, hown, hts⟩ (mX12_isSetting l dC dI cI cB cO cL  a1 a2  ) (va_cwS 2 hts gX12_sets_X12_isSetting rfl rfl rfl (by decide +kernel) ⟨Nat.le_of_ble_eq_true rfl, Nat.le_of_ble_eq_true rfl⟩) ⟨gP_blind, gP_ok va_P_nil hK⟩ rfl rfl hl.1 rfl (lv_room (Nat.le_of_ble_eq_true rfl)) dX12_sets_2 ⟨Nat.zero_le _, Nat.zero_le _⟩) ?_
  refine lv_if_ne (tgt := 10) hx hb dX12_sets_5 (by decide) (fun c1 => ?_) (fun c1 => ?_)
  · have c1 := bz_t c1
    have hf := it_eq c1 hf
    have hok := it_ok c1 hok
    refine lv_aload_n hx hb dX12_sets_10 rfl (lv_at hl 0 rfl) ?_
    refine lv_aload_n hx hb dX12_sets_11 rfl (lv_at hl 0 rfl) ?_
    refine va_get (D := (dC, dI)) (ci := 9) (v := .ref (q 1)) (C := RX12) (T := TX12) (N := 23) hx hb hts hin12 hown hK hP 0 rfl rfl 0 (by decide) fl7 (fun _ h9 => h9) rfl dX12_sets_12 ?_
    refine lv_bipush (v := 7) hx hb dX12_sets_15 (by decide) ?_
    refine lv_iload_n hx hb dX12_sets_17 rfl (lv_at hl 1 rfl) ?_
    refine lv_iadd hx hb dX12_sets_18 ?_
    obtain ⟨h5, hok⟩ := hok
    refine va_iald (D := (dC, dI)) (tys := (tYS cI cB cO cL)) hx hb hK hP 1 0 rfl rfl h5 dX12_sets_19 ?_
    refine va_put (D := (dC, dI)) (ci := 9) (v := .int ((m.2.2 0) ((7 + a1).toNatClampNeg))) (ty := .int) (C := RX12) (T := TX12) (N := 23) hx hb hts hin12 tyX12 tyX12_ok nmX12 hown hK hP (gD_va hD rfl) hS 0 rfl rfl 14 (by decide) fl119 (fun _ h9 => h9) rfl (by decide +kernel) rfl rfl (Nat.le_of_ble_eq_true rfl) dX12_sets_20 (fun H locs hP _ hS => ?_)
    obtain ⟨m_2, em_2⟩ : ∃ z9 : MS, z9 = msi m 5 ((m.2.2 0) ((7 + a1).toNatClampNeg)) := ⟨_, rfl⟩
    have hP : va_P (dC, dI) vwCl (mw q cI m_2) H := by rw [em_2]; exact hP
    have hf := lt_eq em_2 hf
    have hok := lt_ok em_2 hok
    refine lv_aload_n hx hb dX12_sets_23 rfl (lv_at hl 0 rfl) ?_
    refine va_get (D := (dC, dI)) (ci := 9) (v := .ref (q 1)) (C := RX12) (T := TX12) (N := 23) hx hb hts hin12 hown hK hP 0 rfl rfl 0 (by decide) fl7 (fun _ h9 => h9) rfl dX12_sets_24 ?_
    refine lv_bipush (v := 7) hx hb dX12_sets_27 (by decide) ?_
    refine lv_iload_n hx hb dX12_sets_29 rfl (lv_at hl 1 rfl) ?_
    refine lv_iadd hx hb dX12_sets_30 ?_
    refine lv_iload_n hx hb dX12_sets_31 rfl (lv_at hl 2 rfl) ?_
    have h3 : vp_in (7 + a1) 122 := hok
    refine va_iast (D := (dC, dI)) (tys := (tYS cI cB cO cL)) hx hb hK hP (gD_va hD rfl) hS 1 0 rfl rfl h3 dX12_sets_32 (fun H locs hP _ hS => ?_)
    obtain ⟨m_4, em_4⟩ : ∃ z9 : MS, z9 = msa m_2 0 (upd (m_2.2.2 0) ((7 + a1).toNatClampNeg) a2) := ⟨_, rfl⟩
    have hP : va_P (dC, dI) vwCl (mw q cI m_4) H := by rw [em_4]; exact hP
    have hf := lt_eq em_4 hf
    refine lv_iconst (v := 0) hx hb dX12_sets_33 (by decide) ?_
    exact e_mi C0 (hf.symm.trans hF) hP hS dX12_sets_34
  · have c1 := bz_f c1
    have hf := ie_eq c1 hf
    refine lv_iconst (v := 2) hx hb dX12_sets_8 (by decide) ?_
    exact e_mi C0 (hf.symm.trans hF) hP hS dX12_sets_9
noncomputable def pX12_mayClick (m : MS) (a1 : Int32) (a2 : Int32) (a3 : Int32) : Int32 := if (pX12_isPlace a1) = true then (if (pX12_isPlace a2) = true then (if (pX12_in a3 0 100000) = true then (if ((m.2.2 0) 2) = 0 then (3) else (0)) else (2)) else (2)) else (2)
abbrev rX12_mayClick : Room := { frames := 2, cells := 0, slots := 0, locals := 42 }
set_option maxHeartbeats 4000000 in
set_option maxRecDepth 100000 in
theorem mX12_mayClick (l : Launch) (dC : Nat → ClassId) (dI : Nat → Nat → Nat) (cI cB cO cL : ClassId) (q : Nat → Nat) (m : MS) (a1 : Int32) (a2 : Int32) (a3 : Int32) : Met l yX12_mayClick wsX12_mayClick rX12_mayClick (gP (dC, dI) (tYS cI cB cO cL) (mw q cI m) [.ref (q 0), .int a1, .int a2, .int a3]) (gRi (pX12_mayClick m a1 a2 a3)) 0 0 (fun _ => False) := by
  refine gMet (cc := cX12_mayClick) (maxL := 4) (ret := some .int) [(0, .ref (q 0)), (1, .int a1), (2, .int a2), (3, .int a3)] (by decide) rfl rfl rfl ?_
  intro p e s mi below meth c C0 hK hP ls hl
  obtain ⟨hx, hb, hr, hml, hown, hts, hlocks⟩ := id C0
  have hown : s.vm.findClass RX12 = some mi.cls := hown
  obtain ⟨F, hF⟩ : ∃ F, F = pX12_mayClick m a1 a2 a3 := ⟨_, rfl⟩
  have hf := hF
  have hin12 : ∀ w ∈ u_ws RX12 TX12 23, w ∈ wsX12_mayClick := by decide +kernel
  have cn79 := hts (.constant RX12 79 (100000)) (by decide +kernel)
  have fl7 := hts (.fieldLink RX12 7 "ClickBenchModel" "s" "[I") (by decide +kernel)
  refine lv_iload_n hx hb dX12_mayClick_0 rfl (lv_at hl 1 rfl) ?_
  refine gro_i (va_runS (As := [.int a1]) (rest := []) ⟨hx, hb, hml, hown, hts⟩ (mX12_isPlace l dC dI cI cB cO cL  a1  ) (va_cwS 1 hts gX12_mayClick_X12_isPlace rfl rfl rfl (by decide +kernel) ⟨Nat.le_of_ble_eq_true rfl, Nat.le_of_ble_eq_true rfl⟩) ⟨gP_blind, gP_ok va_P_nil hK⟩ rfl rfl hl.1 rfl (lv_room (Nat.le_of_ble_eq_true rfl)) dX12_mayClick_1 ⟨Nat.zero_le _, Nat.zero_le _⟩) ?_
  refine lv_if_eq (tgt := 24) hx hb dX12_mayClick_4 (by decide) (fun c1 => ?_) (fun c1 => ?_)
  · have c1 := bz_f c1
    have hf := ie_eq c1 hf
    refine lv_iconst (v := 2) hx hb dX12_mayClick_24 (by decide) ?_
    exact e_ri C0 (hf.symm.trans hF) dX12_mayClick_25
  · have c1 := bz_t c1
    have hf := it_eq c1 hf
    refine lv_iload_n hx hb dX12_mayClick_7 rfl (lv_at hl 2 rfl) ?_
    refine gro_i (va_runS (As := [.int a2]) (rest := []) ⟨hx, hb, hml, hown, hts⟩ (mX12_isPlace l dC dI cI cB cO cL  a2  ) (va_cwS 1 hts gX12_mayClick_X12_isPlace rfl rfl rfl (by decide +kernel) ⟨Nat.le_of_ble_eq_true rfl, Nat.le_of_ble_eq_true rfl⟩) ⟨gP_blind, gP_ok va_P_nil hK⟩ rfl rfl hl.1 rfl (lv_room (Nat.le_of_ble_eq_true rfl)) dX12_mayClick_8 ⟨Nat.zero_le _, Nat.zero_le _⟩) ?_
    refine lv_if_eq (tgt := 24) hx hb dX12_mayClick_11 (by decide) (fun c2 => ?_) (fun c2 => ?_)
    · have c2 := bz_f c2
      have hf := ie_eq c2 hf
      refine lv_iconst (v := 2) hx hb dX12_mayClick_24 (by decide) ?_
      exact e_ri C0 (hf.symm.trans hF) dX12_mayClick_25
    · have c2 := bz_t c2
      have hf := it_eq c2 hf
      refine lv_iload_n hx hb dX12_mayClick_14 rfl (lv_at hl 3 rfl) ?_
      refine lv_iconst (v := 0) hx hb dX12_mayClick_15 (by decide) ?_
      refine lv_ldc (v := 100000) hx hb hown cn79 dX12_mayClick_16 ?_
      refine gro_i (va_runS (As := [.int a3, .int 0, .int 100000]) (rest := []) ⟨hx, hb, hml, hown, hts⟩ (mX12_in l dC dI cI cB cO cL  a3 0 100000  ) (va_cwS 3 hts gX12_mayClick_X12_in rfl rfl rfl (by decide +kernel) ⟨Nat.le_of_ble_eq_true rfl, Nat.le_of_ble_eq_true rfl⟩) ⟨gP_blind, gP_ok va_P_nil hK⟩ rfl rfl hl.1 rfl (lv_room (Nat.le_of_ble_eq_true rfl)) dX12_mayClick_18 ⟨Nat.zero_le _, Nat.zero_le _⟩) ?_
      refine lv_if_ne (tgt := 26) hx hb dX12_mayClick_21 (by decide) (fun c3 => ?_) (fun c3 => ?_)
      · have c3 := bz_t c3
        have hf := it_eq c3 hf
        refine lv_aload_n hx hb dX12_mayClick_26 rfl (lv_at hl 0 rfl) ?_
        refine va_get (D := (dC, dI)) (ci := 9) (v := .ref (q 1)) (C := RX12) (T := TX12) (N := 23) hx hb hts hin12 hown hK hP 0 rfl rfl 0 (by decide) fl7 (fun _ h9 => h9) rfl dX12_mayClick_27 ?_
        refine lv_iconst (v := 2) hx hb dX12_mayClick_30 (by decide) ?_
        refine g_ialdK (D := (dC, dI)) (tys := (tYS cI cB cO cL)) (k := 2) hx hb hK hP 1 0 rfl rfl (by decide) (by decide) (by decide) dX12_mayClick_31 ?_
        refine lv_if_ne (tgt := 39) hx hb dX12_mayClick_32 (by decide) (fun c4 => ?_) (fun c4 => ?_)
        · have hf := ie_eq c4 hf
          refine lv_iconst (v := 0) hx hb dX12_mayClick_39 (by decide) ?_
          exact e_ri C0 (hf.symm.trans hF) dX12_mayClick_40
        · have hf := it_eq c4 hf
          refine lv_iconst (v := 3) hx hb dX12_mayClick_35 (by decide) ?_
          refine lv_goto (tgt := 40) hx hb dX12_mayClick_36 (by decide) ?_
          exact e_ri C0 (hf.symm.trans hF) dX12_mayClick_40
      · have c3 := bz_f c3
        have hf := ie_eq c3 hf
        refine lv_iconst (v := 2) hx hb dX12_mayClick_24 (by decide) ?_
        exact e_ri C0 (hf.symm.trans hF) dX12_mayClick_25
noncomputable def bX12_clicks_L20   (q_20 : Int32 → Int32 → Int32 → Int32 → MS → (Int32 × MS)) (v1_20 : Int32) (v2_20 : Int32) (v3_20 : Int32) (v5_20 : Int32) (m_20 : MS) : Int32 × MS := if ((m_20.2.2 0) 2) ≤ v5_20 then (lt (msa m_20 0 (upd (m_20.2.2 0) 5 (((m_20.2.2 0) 5) + 1))) fun (m_4 : MS) => lt (msi m_4 5 (pX12_noted m_4)) fun (m_6 : MS) => (0, m_6)) else (lt (pX12_notes m_20 v1_20 v2_20 v3_20 v5_20) fun (u9 : MS) => lt (v5_20 + 1) fun (x10 : Int32) => q_20 v1_20 v2_20 v3_20 x10 u9)
noncomputable def pX12_clicks_L20   : Nat → Int32 → Int32 → Int32 → Int32 → MS → (Int32 × MS)
  | 0 => fun _ _ _ _ m_20 => (0, m_20)
  | n + 1 => bX12_clicks_L20   (pX12_clicks_L20   n)
def kbX12_clicks_L20   (Q_20 : Int32 → Int32 → Int32 → Int32 → MS → Prop) (v1_20 : Int32) (v2_20 : Int32) (v3_20 : Int32) (v5_20 : Int32) (m_20 : MS) : Prop := if ((m_20.2.2 0) 2) ≤ v5_20 then (lt (msa m_20 0 (upd (m_20.2.2 0) 5 (((m_20.2.2 0) 5) + 1))) fun (m_4 : MS) => kX12_noted m_4) else ((kX12_notes m_20 v1_20 v2_20 v3_20 v5_20) ∧ (lt (pX12_notes m_20 v1_20 v2_20 v3_20 v5_20) fun (u9 : MS) => lt (v5_20 + 1) fun (x10 : Int32) => Q_20 v1_20 v2_20 v3_20 x10 u9))
noncomputable def kX12_clicks_L20   : Nat → Int32 → Int32 → Int32 → Int32 → MS → Prop
  | 0 => fun _ _ _ _ _ => False
  | n + 1 => kbX12_clicks_L20   (kX12_clicks_L20   n)
noncomputable def pX12_clicks (m : MS) (a1 : Int32) (a2 : Int32) (a3 : Int32) : Int32 × MS := lt (pX12_mayClick m a1 a2 a3) fun (x1 : Int32) => if x1 ≤ 0 then (pX12_clicks_L20 fu a1 a2 a3 0 m) else ((x1, m))
def kX12_clicks (m : MS) (a1 : Int32) (a2 : Int32) (a3 : Int32) : Prop := lt (pX12_mayClick m a1 a2 a3) fun (x1 : Int32) => if x1 ≤ 0 then (kX12_clicks_L20 fu a1 a2 a3 0 m) else (True)
abbrev rX12_clicks : Room := { frames := 5, cells := 0, slots := 0, locals := 133 }
set_option maxHeartbeats 4000000 in
set_option maxRecDepth 100000 in
theorem mX12_clicks (l : Launch) (dC : Nat → ClassId) (dI : Nat → Nat → Nat) (cI cB cO cL : ClassId) (q : Nat → Nat) (m : MS) (a1 : Int32) (a2 : Int32) (a3 : Int32) (hI : gD (fun _ => True) (mAd q)) (hok : kX12_clicks m a1 a2 a3) : Met l yX12_clicks wsX12_clicks rX12_clicks (gP (dC, dI) (tYS cI cB cO cL) (mw q cI m) [.ref (q 0), .int a1, .int a2, .int a3]) (gQi (dC, dI) (fun m9 => mw q cI m9) (wA (mw q cI m)) (pX12_clicks m a1 a2 a3)) 0 0 (wA (mw q cI m)) := by
  refine gMet (cc := cX12_clicks) (maxL := 6) (ret := some .int) [(0, .ref (q 0)), (1, .int a1), (2, .int a2), (3, .int a3)] (by decide) rfl rfl rfl ?_
  intro p e s mi below meth c C0 hK hP ls hl
  obtain ⟨hx, hb, hr, hml, hown, hts, hlocks⟩ := id C0
  have hown : s.vm.findClass RX12 = some mi.cls := hown
  have hS : va_S (wA (mw q cI m)) s.heap s.heap [] := va_S.rf
  have hD : gD (wA (mw q cI m)) (mAd q) := gD_wA (ws := mw q cI m) hI
  have hP : va_P (dC, dI) vwCl (mw q cI m) s.heap := hP
  obtain ⟨F, hF⟩ : ∃ F, F = pX12_clicks m a1 a2 a3 := ⟨_, rfl⟩
  have hf := hF
  have hin12 : ∀ w ∈ u_ws RX12 TX12 23, w ∈ wsX12_clicks := by decide +kernel
  have fl7 := hts (.fieldLink RX12 7 "ClickBenchModel" "s" "[I") (by decide +kernel)
  have fl119 := hts (.fieldLink RX12 119 "ClickBenchModel" "answer" "I") (by decide +kernel)
  have J_20 : ∀ (n_20 : Nat) (v1_20 : Int32) (v2_20 : Int32) (v3_20 : Int32) (v5_20 : Int32) (m_20 : MS) (H : Heap) (locs : List Loc), va_P (dC, dI) vwCl (mw q cI m_20) H → va_S (wA (mw q cI m)) s.heap H locs → ∀ ls : Array Slot, lv_has ls 6 [(0, .ref (q 0)), (1, .int v1_20), (2, .int v2_20), (3, .int v3_20), (5, .int v5_20)] → F = pX12_clicks_L20 n_20 v1_20 v2_20 v3_20 v5_20 m_20 → kX12_clicks_L20 n_20 v1_20 v2_20 v3_20 v5_20 m_20 → W p l e rX12_clicks s mi ([.ref (q 0), .int a1, .int a2, .int a3] : List Value).toArray below meth c H locs 0 0 (MQ below (gQi (dC, dI) (fun m9 => mw q cI m9) (wA (mw q cI m)) (pX12_clicks m a1 a2 a3)) ([.ref (q 0), .int a1, .int a2, .int a3] : List Value).toArray s 0 0 (wA (mw q cI m))) (F0 mi 20 ls []) := by
    intro n_20
    induction n_20 with
    | zero =>
      intro v1_20 v2_20 v3_20 v5_20 m_20 H locs hP hS ls hl hf hok
      exact absurd hok (fun h => h)
    | succ n_20 ih_20 =>
      intro v1_20 v2_20 v3_20 v5_20 m_20 H locs hP hS ls hl hf hok
      have hf : F = bX12_clicks_L20 (pX12_clicks_L20 n_20) v1_20 v2_20 v3_20 v5_20 m_20 := hf
      have hok : kbX12_clicks_L20 (kX12_clicks_L20 n_20) v1_20 v2_20 v3_20 v5_20 m_20 := hok
      refine lv_iload hx hb dX12_clicks_20 (lv_at hl 4 rfl) ?_
      refine lv_aload_n hx hb dX12_clicks_22 rfl (lv_at hl 0 rfl) ?_
      refine va_get (D := (dC, dI)) (ci := 9) (v := .ref (q 1)) (C := RX12) (T := TX12) (N := 23) hx hb hts hin12 hown hK hP 0 rfl rfl 0 (by decide) fl7 (fun _ h9 => h9) rfl dX12_clicks_23 ?_
      refine lv_iconst (v := 2) hx hb dX12_clicks_26 (by decide) ?_
      refine g_ialdK (D := (dC, dI)) (tys := (tYS cI cB cO cL)) (k := 2) hx hb hK hP 1 0 rfl rfl (by decide) (by decide) (by decide) dX12_clicks_27 ?_
      refine lv_icmp_ge (tgt := 46) hx hb dX12_clicks_28 (by decide) (fun c3 => ?_) (fun c3 => ?_)
      · have hf := it_eq c3 hf
        have hok := it_ok c3 hok
        refine lv_aload_n hx hb dX12_clicks_46 rfl (lv_at hl 0 rfl) ?_
        refine va_get (D := (dC, dI)) (ci := 9) (v := .ref (q 1)) (C := RX12) (T := TX12) (N := 23) hx hb hts hin12 hown hK hP 0 rfl rfl 0 (by decide) fl7 (fun _ h9 => h9) rfl dX12_clicks_47 ?_
        refine lv_iconst (v := 5) hx hb dX12_clicks_50 (by decide) ?_
        refine lv_dup2_11 hx hb dX12_clicks_51 rfl rfl ?_
        refine g_ialdK (D := (dC, dI)) (tys := (tYS cI cB cO cL)) (k := 5) hx hb hK hP 1 0 rfl rfl (by decide) (by decide) (by decide) dX12_clicks_52 ?_
        refine lv_iconst (v := 1) hx hb dX12_clicks_53 (by decide) ?_
        refine lv_iadd hx hb dX12_clicks_54 ?_
        refine g_iastK (D := (dC, dI)) (tys := (tYS cI cB cO cL)) (k := 5) hx hb hK hP (gD_va hD rfl) hS 1 0 rfl rfl (by decide) (by decide) (by decide) dX12_clicks_55 (fun H locs hP hS => ?_)
        obtain ⟨m_4, em_4⟩ : ∃ z9 : MS, z9 = msa m_20 0 (upd (m_20.2.2 0) 5 (((m_20.2.2 0) 5) + 1)) := ⟨_, rfl⟩
        have hP : va_P (dC, dI) vwCl (mw q cI m_4) H := by rw [em_4]; exact hP
        have hf := lt_eq em_4 hf
        have hok := lt_ok em_4 hok
        refine lv_aload_n hx hb dX12_clicks_56 rfl (lv_at hl 0 rfl) ?_
        refine lv_aload_n hx hb dX12_clicks_57 rfl (lv_at hl 0 rfl) ?_
        have h5 : kX12_noted m_4 := hok
        refine gro_i (va_runV (As := []) (rest := [.ref (q 0)]) ⟨hx, hb, hml, hown, hts⟩ (mX12_noted l dC dI cI cB cO cL q m_4  h5) (cwV 0 hts gX12_clicks_X12_noted rfl rfl rfl (by decide +kernel) ⟨Nat.le_of_ble_eq_true rfl, Nat.le_of_ble_eq_true rfl⟩) ⟨gP_blind, va_recv hK hP (ci := 9) (q0 := 0) rfl rfl, gP_ok hP hK⟩ rfl rfl hl.1 rfl (lv_room (Nat.le_of_ble_eq_true rfl)) dX12_clicks_58 ⟨Nat.zero_le _, Nat.zero_le _⟩) ?_
        refine va_put (D := (dC, dI)) (ci := 9) (v := .int (pX12_noted m_4)) (ty := .int) (C := RX12) (T := TX12) (N := 23) hx hb hts hin12 tyX12 tyX12_ok nmX12 hown hK hP (gD_va hD rfl) hS 0 rfl rfl 14 (by decide) fl119 (fun _ h9 => h9) rfl (by decide +kernel) rfl rfl (Nat.le_of_ble_eq_true rfl) dX12_clicks_61 (fun H locs hP _ hS => ?_)
        obtain ⟨m_6, em_6⟩ : ∃ z9 : MS, z9 = msi m_4 5 (pX12_noted m_4) := ⟨_, rfl⟩
        have hP : va_P (dC, dI) vwCl (mw q cI m_6) H := by rw [em_6]; exact hP
        have hf := lt_eq em_6 hf
        refine lv_iconst (v := 0) hx hb dX12_clicks_64 (by decide) ?_
        exact e_mi C0 (hf.symm.trans hF) hP hS dX12_clicks_65
      · have hf := ie_eq c3 hf
        have hok := ie_ok c3 hok
        refine lv_aload_n hx hb dX12_clicks_31 rfl (lv_at hl 0 rfl) ?_
        refine lv_iload_n hx hb dX12_clicks_32 rfl (lv_at hl 1 rfl) ?_
        refine lv_iload_n hx hb dX12_clicks_33 rfl (lv_at hl 2 rfl) ?_
        refine lv_iload_n hx hb dX12_clicks_34 rfl (lv_at hl 3 rfl) ?_
        refine lv_iload hx hb dX12_clicks_35 (lv_at hl 4 rfl) ?_
        obtain ⟨h7, hok⟩ := hok
        refine gms_v (va_runV (As := [.int v1_20, .int v2_20, .int v3_20, .int v5_20]) (rest := []) ⟨hx, hb, hml, hown, hts⟩ (mX12_notes l dC dI cI cB cO cL q m_20 v1_20 v2_20 v3_20 v5_20 (gD_any hD) h7) (cwV 4 hts gX12_clicks_X12_notes rfl rfl rfl (by decide +kernel) ⟨Nat.le_of_ble_eq_true rfl, Nat.le_of_ble_eq_true rfl⟩) ⟨gP_blind, va_recv hK hP (ci := 9) (q0 := 0) rfl rfl, gP_ok hP hK⟩ rfl rfl hl.1 rfl (lv_room (Nat.le_of_ble_eq_true rfl)) dX12_clicks_37 ⟨Nat.zero_le _, Nat.zero_le _⟩) hP (gD_va hD rfl) hS (fun u9 H locs hw hP hS => ?_)
        have hP : va_P (dC, dI) vwCl (mw q cI u9) H := hP
        have hf := lt_eq hw hf
        have hok := lt_ok hw hok
        obtain ⟨x10, ex10⟩ : ∃ y : Int32, y = v5_20 + 1 := ⟨_, rfl⟩
        refine lv_iinc (v := x10) (lv' := [(5, .int x10), (0, .ref (q 0)), (1, .int v1_20), (2, .int v2_20), (3, .int v3_20)]) hx hb dX12_clicks_40 hl (k := 4) rfl (by rw [ex10]; rfl) (by decide) rfl (fun ls hl => ?_)
        have hf := lt_eq ex10 hf
        have hok := lt_ok ex10 hok
        refine lv_goto (tgt := 20) hx hb dX12_clicks_43 (by decide) ?_
        exact ih_20 v1_20 v2_20 v3_20 x10 u9 _ _ hP hS _ (lv_sub hl [1, 2, 3, 4, 0] rfl) hf hok
  refine lv_aload_n hx hb dX12_clicks_0 rfl (lv_at hl 0 rfl) ?_
  refine lv_iload_n hx hb dX12_clicks_1 rfl (lv_at hl 1 rfl) ?_
  refine lv_iload_n hx hb dX12_clicks_2 rfl (lv_at hl 2 rfl) ?_
  refine lv_iload_n hx hb dX12_clicks_3 rfl (lv_at hl 3 rfl) ?_
  refine gro_i (va_runV (As := [.int a1, .int a2, .int a3]) (rest := []) ⟨hx, hb, hml, hown, hts⟩ (mX12_mayClick l dC dI cI cB cO cL q m a1 a2 a3  ) (cwV 3 hts gX12_clicks_X12_mayClick rfl rfl rfl (by decide +kernel) ⟨Nat.le_of_ble_eq_true rfl, Nat.le_of_ble_eq_true rfl⟩) ⟨gP_blind, va_recv hK hP (ci := 9) (q0 := 0) rfl rfl, gP_ok hP hK⟩ rfl rfl hl.1 rfl (lv_room (Nat.le_of_ble_eq_true rfl)) dX12_clicks_4 ⟨Nat.zero_le _, Nat.zero_le _⟩) ?_
  refine lv_topi (fun x1 ex1 => ?_)
  have hf := lt_eq ex1 hf
  have hok := lt_ok ex1 hok
  refine lv_istore (lv' := [(4, .int x1), (0, .ref (q 0)), (1, .int a1), (2, .int a2), (3, .int a3)]) hx hb dX12_clicks_7 hl (by decide) rfl (fun ls hl => ?_)
  refine lv_iload hx hb dX12_clicks_9 (lv_at hl 0 rfl) ?_
  refine lv_if_le (tgt := 17) hx hb dX12_clicks_11 (by decide) (fun c2 => ?_) (fun c2 => ?_)
  · have hf := it_eq c2 hf
    have hok := it_ok c2 hok
    refine lv_iconst (v := 0) hx hb dX12_clicks_17 (by decide) ?_
    refine lv_istore (lv' := [(5, .int 0), (4, .int x1), (0, .ref (q 0)), (1, .int a1), (2, .int a2), (3, .int a3)]) hx hb dX12_clicks_18 hl (by decide) rfl (fun ls hl => ?_)
    exact J_20 fu a1 a2 a3 0 m _ _ hP hS _ (lv_sub hl [2, 3, 4, 5, 0] rfl) hf hok
  · have hf := ie_eq c2 hf
    refine lv_iload hx hb dX12_clicks_14 (lv_at hl 0 rfl) ?_
    exact e_mi C0 (hf.symm.trans hF) hP hS dX12_clicks_16
noncomputable def pX12_calibrates_L154  (q_23 : Int32 → Int32 → Int32 → Int32 → Int32 → MS → (Int32 × MS)) (v1_154 : Int32) (v2_154 : Int32) (v3_154 : Int32) (v6_154 : Int32) (t0_154 : Int32) (t1_154 : Bool) (m_154 : MS) : Int32 × MS := lt (t0_154 + (bz t1_154)) fun (x25 : Int32) => lt (v6_154 + 1) fun (x26 : Int32) => q_23 v1_154 v2_154 v3_154 x25 x26 m_154
def kX12_calibrates_L154  (Q_23 : Int32 → Int32 → Int32 → Int32 → Int32 → MS → Prop) (v1_154 : Int32) (v2_154 : Int32) (v3_154 : Int32) (v6_154 : Int32) (t0_154 : Int32) (t1_154 : Bool) (m_154 : MS) : Prop := lt (t0_154 + (bz t1_154)) fun (x25 : Int32) => lt (v6_154 + 1) fun (x26 : Int32) => Q_23 v1_154 v2_154 v3_154 x25 x26 m_154
noncomputable def pX12_calibrates_L137  (q_23 : Int32 → Int32 → Int32 → Int32 → Int32 → MS → (Int32 × MS)) (v1_137 : Int32) (v2_137 : Int32) (v3_137 : Int32) (v5_137 : Int32) (v6_137 : Int32) (v7_137 : Int32) (v8_137 : Int32) (t1_137 : Int32) (t2_137 : Int32) (t3_137 : Int32) (m_137 : MS) : Int32 × MS := lt (pX12_puts m_137 t1_137 t2_137 t3_137) fun (u23 : MS) => if v8_137 = v7_137 then (pX12_calibrates_L154 q_23 v1_137 v2_137 v3_137 v6_137 v5_137 false u23) else (pX12_calibrates_L154 q_23 v1_137 v2_137 v3_137 v6_137 v5_137 true u23)
def kX12_calibrates_L137  (Q_23 : Int32 → Int32 → Int32 → Int32 → Int32 → MS → Prop) (v1_137 : Int32) (v2_137 : Int32) (v3_137 : Int32) (v5_137 : Int32) (v6_137 : Int32) (v7_137 : Int32) (v8_137 : Int32) (t1_137 : Int32) (t2_137 : Int32) (t3_137 : Int32) (m_137 : MS) : Prop := (kX12_puts m_137 t1_137 t2_137 t3_137) ∧ (lt (pX12_puts m_137 t1_137 t2_137 t3_137) fun (u23 : MS) => if v8_137 = v7_137 then (kX12_calibrates_L154 Q_23 v1_137 v2_137 v3_137 v6_137 v5_137 false u23) else (kX12_calibrates_L154 Q_23 v1_137 v2_137 v3_137 v6_137 v5_137 true u23))
noncomputable def pX12_calibrates_L97  (q_23 : Int32 → Int32 → Int32 → Int32 → Int32 → MS → (Int32 × MS)) (v1_97 : Int32) (v2_97 : Int32) (v3_97 : Int32) (v5_97 : Int32) (v6_97 : Int32) (v7_97 : Int32) (t0_97 : Int32) (m_97 : MS) : Int32 × MS := lt (pX12_puts m_97 v6_97 3 t0_97) fun (u18 : MS) => if (pX12_of u18 v6_97 4) = 1 then (pX12_calibrates_L137 q_23 v1_97 v2_97 v3_97 v5_97 v6_97 v7_97 t0_97 v6_97 5 ((pX12_of u18 v6_97 5) - t0_97) u18) else (pX12_calibrates_L137 q_23 v1_97 v2_97 v3_97 v5_97 v6_97 v7_97 t0_97 v6_97 5 0 u18)
def kX12_calibrates_L97  (Q_23 : Int32 → Int32 → Int32 → Int32 → Int32 → MS → Prop) (v1_97 : Int32) (v2_97 : Int32) (v3_97 : Int32) (v5_97 : Int32) (v6_97 : Int32) (v7_97 : Int32) (t0_97 : Int32) (m_97 : MS) : Prop := (kX12_puts m_97 v6_97 3 t0_97) ∧ (lt (pX12_puts m_97 v6_97 3 t0_97) fun (u18 : MS) => (kX12_of u18 v6_97 4) ∧ (if (pX12_of u18 v6_97 4) = 1 then ((kX12_of u18 v6_97 5) ∧ (kX12_calibrates_L137 Q_23 v1_97 v2_97 v3_97 v5_97 v6_97 v7_97 t0_97 v6_97 5 ((pX12_of u18 v6_97 5) - t0_97) u18)) else (kX12_calibrates_L137 Q_23 v1_97 v2_97 v3_97 v5_97 v6_97 v7_97 t0_97 v6_97 5 0 u18)))
noncomputable def bX12_calibrates_L23   (q_23 : Int32 → Int32 → Int32 → Int32 → Int32 → MS → (Int32 × MS)) (v1_23 : Int32) (v2_23 : Int32) (v3_23 : Int32) (v5_23 : Int32) (v6_23 : Int32) (m_23 : MS) : Int32 × MS := if ((m_23.2.2 0) 2) ≤ v6_23 then (lt (msa m_23 0 (upd (m_23.2.2 0) 5 (((m_23.2.2 0) 5) + 1))) fun (m_4 : MS) => lt (msi m_4 5 v5_23) fun (m_5 : MS) => (0, m_5)) else (lt (pX12_of m_23 v6_23 3) fun (x7 : Int32) => lt (pX12_puts m_23 v6_23 3 0) fun (u10 : MS) => lt (pX12_notes u10 v1_23 v2_23 v3_23 v6_23) fun (u13 : MS) => if (pX12_of u13 v6_23 4) = 1 then (pX12_calibrates_L97 q_23 v1_23 v2_23 v3_23 v5_23 v6_23 x7 (((pX12_of u13 v6_23 5) - v3_23) - (pX12_timeOf u13 (pX12_wayTo u13 v1_23 v2_23 v6_23))) u13) else (pX12_calibrates_L97 q_23 v1_23 v2_23 v3_23 v5_23 v6_23 x7 0 u13))
noncomputable def pX12_calibrates_L23   : Nat → Int32 → Int32 → Int32 → Int32 → Int32 → MS → (Int32 × MS)
  | 0 => fun _ _ _ _ _ m_23 => (0, m_23)
  | n + 1 => bX12_calibrates_L23   (pX12_calibrates_L23   n)
def kbX12_calibrates_L23   (Q_23 : Int32 → Int32 → Int32 → Int32 → Int32 → MS → Prop) (v1_23 : Int32) (v2_23 : Int32) (v3_23 : Int32) (v5_23 : Int32) (v6_23 : Int32) (m_23 : MS) : Prop := if ((m_23.2.2 0) 2) ≤ v6_23 then (True) else ((kX12_of m_23 v6_23 3) ∧ (lt (pX12_of m_23 v6_23 3) fun (x7 : Int32) => (kX12_puts m_23 v6_23 3 0) ∧ (lt (pX12_puts m_23 v6_23 3 0) fun (u10 : MS) => (kX12_notes u10 v1_23 v2_23 v3_23 v6_23) ∧ (lt (pX12_notes u10 v1_23 v2_23 v3_23 v6_23) fun (u13 : MS) => (kX12_of u13 v6_23 4) ∧ (if (pX12_of u13 v6_23 4) = 1 then ((kX12_of u13 v6_23 5) ∧ ((kX12_wayTo u13 v1_23 v2_23 v6_23) ∧ ((kX12_timeOf u13 (pX12_wayTo u13 v1_23 v2_23 v6_23)) ∧ (kX12_calibrates_L97 Q_23 v1_23 v2_23 v3_23 v5_23 v6_23 x7 (((pX12_of u13 v6_23 5) - v3_23) - (pX12_timeOf u13 (pX12_wayTo u13 v1_23 v2_23 v6_23))) u13)))) else (kX12_calibrates_L97 Q_23 v1_23 v2_23 v3_23 v5_23 v6_23 x7 0 u13))))))
noncomputable def kX12_calibrates_L23   : Nat → Int32 → Int32 → Int32 → Int32 → Int32 → MS → Prop
  | 0 => fun _ _ _ _ _ _ => False
  | n + 1 => kbX12_calibrates_L23   (kX12_calibrates_L23   n)
noncomputable def pX12_calibrates (m : MS) (a1 : Int32) (a2 : Int32) (a3 : Int32) : Int32 × MS := lt (pX12_mayClick m a1 a2 a3) fun (x1 : Int32) => if x1 ≤ 0 then (pX12_calibrates_L23 fu a1 a2 a3 0 0 m) else ((x1, m))
def kX12_calibrates (m : MS) (a1 : Int32) (a2 : Int32) (a3 : Int32) : Prop := lt (pX12_mayClick m a1 a2 a3) fun (x1 : Int32) => if x1 ≤ 0 then (kX12_calibrates_L23 fu a1 a2 a3 0 0 m) else (True)
abbrev rX12_calibrates : Room := { frames := 5, cells := 0, slots := 0, locals := 133 }
set_option maxHeartbeats 4000000 in
set_option maxRecDepth 100000 in
theorem mX12_calibrates (l : Launch) (dC : Nat → ClassId) (dI : Nat → Nat → Nat) (cI cB cO cL : ClassId) (q : Nat → Nat) (m : MS) (a1 : Int32) (a2 : Int32) (a3 : Int32) (hI : gD (fun _ => True) (mAd q)) (hok : kX12_calibrates m a1 a2 a3) : Met l yX12_calibrates wsX12_calibrates rX12_calibrates (gP (dC, dI) (tYS cI cB cO cL) (mw q cI m) [.ref (q 0), .int a1, .int a2, .int a3]) (gQi (dC, dI) (fun m9 => mw q cI m9) (wA (mw q cI m)) (pX12_calibrates m a1 a2 a3)) 0 0 (wA (mw q cI m)) := by
  refine gMet (cc := cX12_calibrates) (maxL := 9) (ret := some .int) [(0, .ref (q 0)), (1, .int a1), (2, .int a2), (3, .int a3)] (by decide) rfl rfl rfl ?_
  intro p e s mi below meth c C0 hK hP ls hl
  obtain ⟨hx, hb, hr, hml, hown, hts, hlocks⟩ := id C0
  have hown : s.vm.findClass RX12 = some mi.cls := hown
  have hS : va_S (wA (mw q cI m)) s.heap s.heap [] := va_S.rf
  have hD : gD (wA (mw q cI m)) (mAd q) := gD_wA (ws := mw q cI m) hI
  have hP : va_P (dC, dI) vwCl (mw q cI m) s.heap := hP
  obtain ⟨F, hF⟩ : ∃ F, F = pX12_calibrates m a1 a2 a3 := ⟨_, rfl⟩
  have hf := hF
  have hin12 : ∀ w ∈ u_ws RX12 TX12 23, w ∈ wsX12_calibrates := by decide +kernel
  have fl7 := hts (.fieldLink RX12 7 "ClickBenchModel" "s" "[I") (by decide +kernel)
  have fl119 := hts (.fieldLink RX12 119 "ClickBenchModel" "answer" "I") (by decide +kernel)
  have J_23 : ∀ (n_23 : Nat) (v1_23 : Int32) (v2_23 : Int32) (v3_23 : Int32) (v5_23 : Int32) (v6_23 : Int32) (m_23 : MS) (H : Heap) (locs : List Loc), va_P (dC, dI) vwCl (mw q cI m_23) H → va_S (wA (mw q cI m)) s.heap H locs → ∀ ls : Array Slot, lv_has ls 9 [(0, .ref (q 0)), (1, .int v1_23), (2, .int v2_23), (3, .int v3_23), (5, .int v5_23), (6, .int v6_23)] → F = pX12_calibrates_L23 n_23 v1_23 v2_23 v3_23 v5_23 v6_23 m_23 → kX12_calibrates_L23 n_23 v1_23 v2_23 v3_23 v5_23 v6_23 m_23 → W p l e rX12_calibrates s mi ([.ref (q 0), .int a1, .int a2, .int a3] : List Value).toArray below meth c H locs 0 0 (MQ below (gQi (dC, dI) (fun m9 => mw q cI m9) (wA (mw q cI m)) (pX12_calibrates m a1 a2 a3)) ([.ref (q 0), .int a1, .int a2, .int a3] : List Value).toArray s 0 0 (wA (mw q cI m))) (F0 mi 23 ls []) := by
    intro n_23
    induction n_23 with
    | zero =>
      intro v1_23 v2_23 v3_23 v5_23 v6_23 m_23 H locs hP hS ls hl hf hok
      exact absurd hok (fun h => h)
    | succ n_23 ih_23 =>
      have J_154 : ∀ (v1_154 : Int32) (v2_154 : Int32) (v3_154 : Int32) (v6_154 : Int32) (t0_154 : Int32) (t1_154 : Bool) (m_154 : MS) (H : Heap) (locs : List Loc), va_P (dC, dI) vwCl (mw q cI m_154) H → va_S (wA (mw q cI m)) s.heap H locs → ∀ ls : Array Slot, lv_has ls 9 [(0, .ref (q 0)), (1, .int v1_154), (2, .int v2_154), (3, .int v3_154), (6, .int v6_154)] → F = pX12_calibrates_L154 (pX12_calibrates_L23 n_23) v1_154 v2_154 v3_154 v6_154 t0_154 t1_154 m_154 → kX12_calibrates_L154 (kX12_calibrates_L23 n_23) v1_154 v2_154 v3_154 v6_154 t0_154 t1_154 m_154 → W p l e rX12_calibrates s mi ([.ref (q 0), .int a1, .int a2, .int a3] : List Value).toArray below meth c H locs 0 0 (MQ below (gQi (dC, dI) (fun m9 => mw q cI m9) (wA (mw q cI m)) (pX12_calibrates m a1 a2 a3)) ([.ref (q 0), .int a1, .int a2, .int a3] : List Value).toArray s 0 0 (wA (mw q cI m))) (F0 mi 154 ls [.int (bz t1_154), .int t0_154]) := by
        intro v1_154 v2_154 v3_154 v6_154 t0_154 t1_154 m_154 H locs hP hS ls hl hf hok
        refine lv_iadd hx hb dX12_calibrates_154 ?_
        refine lv_topi (fun x25 ex25 => ?_)
        have hf := lt_eq ex25 hf
        have hok := lt_ok ex25 hok
        refine lv_istore (lv' := [(5, .int x25), (0, .ref (q 0)), (1, .int v1_154), (2, .int v2_154), (3, .int v3_154), (6, .int v6_154)]) hx hb dX12_calibrates_155 hl (by decide) rfl (fun ls hl => ?_)
        obtain ⟨x26, ex26⟩ : ∃ y : Int32, y = v6_154 + 1 := ⟨_, rfl⟩
        refine lv_iinc (v := x26) (lv' := [(6, .int x26), (5, .int x25), (0, .ref (q 0)), (1, .int v1_154), (2, .int v2_154), (3, .int v3_154)]) hx hb dX12_calibrates_157 hl (k := 5) rfl (by rw [ex26]; rfl) (by decide) rfl (fun ls hl => ?_)
        have hf := lt_eq ex26 hf
        have hok := lt_ok ex26 hok
        refine lv_goto (tgt := 23) hx hb dX12_calibrates_160 (by decide) ?_
        exact ih_23 v1_154 v2_154 v3_154 x25 x26 m_154 _ _ hP hS _ (lv_sub hl [2, 3, 4, 5, 1, 0] rfl) hf hok
      have J_137 : ∀ (v1_137 : Int32) (v2_137 : Int32) (v3_137 : Int32) (v5_137 : Int32) (v6_137 : Int32) (v7_137 : Int32) (v8_137 : Int32) (t1_137 : Int32) (t2_137 : Int32) (t3_137 : Int32) (m_137 : MS) (H : Heap) (locs : List Loc), va_P (dC, dI) vwCl (mw q cI m_137) H → va_S (wA (mw q cI m)) s.heap H locs → ∀ ls : Array Slot, lv_has ls 9 [(0, .ref (q 0)), (1, .int v1_137), (2, .int v2_137), (3, .int v3_137), (5, .int v5_137), (6, .int v6_137), (7, .int v7_137), (8, .int v8_137)] → F = pX12_calibrates_L137 (pX12_calibrates_L23 n_23) v1_137 v2_137 v3_137 v5_137 v6_137 v7_137 v8_137 t1_137 t2_137 t3_137 m_137 → kX12_calibrates_L137 (kX12_calibrates_L23 n_23) v1_137 v2_137 v3_137 v5_137 v6_137 v7_137 v8_137 t1_137 t2_137 t3_137 m_137 → W p l e rX12_calibrates s mi ([.ref (q 0), .int a1, .int a2, .int a3] : List Value).toArray below meth c H locs 0 0 (MQ below (gQi (dC, dI) (fun m9 => mw q cI m9) (wA (mw q cI m)) (pX12_calibrates m a1 a2 a3)) ([.ref (q 0), .int a1, .int a2, .int a3] : List Value).toArray s 0 0 (wA (mw q cI m))) (F0 mi 137 ls [.int t3_137, .int t2_137, .int t1_137, .ref (q 0)]) := by
        intro v1_137 v2_137 v3_137 v5_137 v6_137 v7_137 v8_137 t1_137 t2_137 t3_137 m_137 H locs hP hS ls hl hf hok
        obtain ⟨h21, hok⟩ := hok
        refine gms_v (va_runV (As := [.int t1_137, .int t2_137, .int t3_137]) (rest := []) ⟨hx, hb, hml, hown, hts⟩ (mX12_puts l dC dI cI cB cO cL q m_137 t1_137 t2_137 t3_137 (gD_any hD) h21) (cwV 3 hts gX12_calibrates_X12_puts rfl rfl rfl (by decide +kernel) ⟨Nat.le_of_ble_eq_true rfl, Nat.le_of_ble_eq_true rfl⟩) ⟨gP_blind, va_recv hK hP (ci := 9) (q0 := 0) rfl rfl, gP_ok hP hK⟩ rfl rfl hl.1 rfl (lv_room (Nat.le_of_ble_eq_true rfl)) dX12_calibrates_137 ⟨Nat.zero_le _, Nat.zero_le _⟩) hP (gD_va hD rfl) hS (fun u23 H locs hw hP hS => ?_)
        have hP : va_P (dC, dI) vwCl (mw q cI u23) H := hP
        have hf := lt_eq hw hf
        have hok := lt_ok hw hok
        refine lv_iload hx hb dX12_calibrates_140 (lv_at hl 4 rfl) ?_
        refine lv_iload hx hb dX12_calibrates_142 (lv_at hl 7 rfl) ?_
        refine lv_iload hx hb dX12_calibrates_144 (lv_at hl 6 rfl) ?_
        refine lv_icmp_ne (tgt := 153) hx hb dX12_calibrates_146 (by decide) (fun c24 => ?_) (fun c24 => ?_)
        · have hf := ie_eq c24 hf
          have hok := ie_ok c24 hok
          refine lv_iconst (v := 1) hx hb dX12_calibrates_153 (by decide) ?_
          exact J_154 v1_137 v2_137 v3_137 v6_137 v5_137 true u23 _ _ hP hS _ (lv_sub hl [0, 1, 2, 3, 5] rfl) hf hok
        · have hf := it_eq c24 hf
          have hok := it_ok c24 hok
          refine lv_iconst (v := 0) hx hb dX12_calibrates_149 (by decide) ?_
          refine lv_goto (tgt := 154) hx hb dX12_calibrates_150 (by decide) ?_
          exact J_154 v1_137 v2_137 v3_137 v6_137 v5_137 false u23 _ _ hP hS _ (lv_sub hl [0, 1, 2, 3, 5] rfl) hf hok
      have J_97 : ∀ (v1_97 : Int32) (v2_97 : Int32) (v3_97 : Int32) (v5_97 : Int32) (v6_97 : Int32) (v7_97 : Int32) (t0_97 : Int32) (m_97 : MS) (H : Heap) (locs : List Loc), va_P (dC, dI) vwCl (mw q cI m_97) H → va_S (wA (mw q cI m)) s.heap H locs → ∀ ls : Array Slot, lv_has ls 9 [(0, .ref (q 0)), (1, .int v1_97), (2, .int v2_97), (3, .int v3_97), (5, .int v5_97), (6, .int v6_97), (7, .int v7_97)] → F = pX12_calibrates_L97 (pX12_calibrates_L23 n_23) v1_97 v2_97 v3_97 v5_97 v6_97 v7_97 t0_97 m_97 → kX12_calibrates_L97 (kX12_calibrates_L23 n_23) v1_97 v2_97 v3_97 v5_97 v6_97 v7_97 t0_97 m_97 → W p l e rX12_calibrates s mi ([.ref (q 0), .int a1, .int a2, .int a3] : List Value).toArray below meth c H locs 0 0 (MQ below (gQi (dC, dI) (fun m9 => mw q cI m9) (wA (mw q cI m)) (pX12_calibrates m a1 a2 a3)) ([.ref (q 0), .int a1, .int a2, .int a3] : List Value).toArray s 0 0 (wA (mw q cI m))) (F0 mi 97 ls [.int t0_97]) := by
        intro v1_97 v2_97 v3_97 v5_97 v6_97 v7_97 t0_97 m_97 H locs hP hS ls hl hf hok
        refine lv_istore (lv' := [(8, .int t0_97), (0, .ref (q 0)), (1, .int v1_97), (2, .int v2_97), (3, .int v3_97), (5, .int v5_97), (6, .int v6_97), (7, .int v7_97)]) hx hb dX12_calibrates_97 hl (by decide) rfl (fun ls hl => ?_)
        refine lv_aload_n hx hb dX12_calibrates_99 rfl (lv_at hl 1 rfl) ?_
        refine lv_iload hx hb dX12_calibrates_100 (lv_at hl 6 rfl) ?_
        refine lv_iconst (v := 3) hx hb dX12_calibrates_102 (by decide) ?_
        refine lv_iload hx hb dX12_calibrates_103 (lv_at hl 0 rfl) ?_
        obtain ⟨h16, hok⟩ := hok
        refine gms_v (va_runV (As := [.int v6_97, .int 3, .int t0_97]) (rest := []) ⟨hx, hb, hml, hown, hts⟩ (mX12_puts l dC dI cI cB cO cL q m_97 v6_97 3 t0_97 (gD_any hD) h16) (cwV 3 hts gX12_calibrates_X12_puts rfl rfl rfl (by decide +kernel) ⟨Nat.le_of_ble_eq_true rfl, Nat.le_of_ble_eq_true rfl⟩) ⟨gP_blind, va_recv hK hP (ci := 9) (q0 := 0) rfl rfl, gP_ok hP hK⟩ rfl rfl hl.1 rfl (lv_room (Nat.le_of_ble_eq_true rfl)) dX12_calibrates_105 ⟨Nat.zero_le _, Nat.zero_le _⟩) hP (gD_va hD rfl) hS (fun u18 H locs hw hP hS => ?_)
        have hP : va_P (dC, dI) vwCl (mw q cI u18) H := hP
        have hf := lt_eq hw hf
        have hok := lt_ok hw hok
        refine lv_aload_n hx hb dX12_calibrates_108 rfl (lv_at hl 1 rfl) ?_
        refine lv_iload hx hb dX12_calibrates_109 (lv_at hl 6 rfl) ?_
        refine lv_iconst (v := 5) hx hb dX12_calibrates_111 (by decide) ?_
        refine lv_aload_n hx hb dX12_calibrates_112 rfl (lv_at hl 1 rfl) ?_
        refine lv_iload hx hb dX12_calibrates_113 (lv_at hl 6 rfl) ?_
        refine lv_iconst (v := 4) hx hb dX12_calibrates_115 (by decide) ?_
        obtain ⟨h19, hok⟩ := hok
        refine gro_i (va_runV (As := [.int v6_97, .int 4]) (rest := [.int 5, .int v6_97, .ref (q 0)]) ⟨hx, hb, hml, hown, hts⟩ (mX12_of l dC dI cI cB cO cL q u18 v6_97 4  h19) (cwV 2 hts gX12_calibrates_X12_of rfl rfl rfl (by decide +kernel) ⟨Nat.le_of_ble_eq_true rfl, Nat.le_of_ble_eq_true rfl⟩) ⟨gP_blind, va_recv hK hP (ci := 9) (q0 := 0) rfl rfl, gP_ok hP hK⟩ rfl rfl hl.1 rfl (lv_room (Nat.le_of_ble_eq_true rfl)) dX12_calibrates_116 ⟨Nat.zero_le _, Nat.zero_le _⟩) ?_
        refine lv_iconst (v := 1) hx hb dX12_calibrates_119 (by decide) ?_
        refine lv_icmp_ne (tgt := 136) hx hb dX12_calibrates_120 (by decide) (fun c20 => ?_) (fun c20 => ?_)
        · have hf := ie_eq c20 hf
          have hok := ie_ok c20 hok
          refine lv_iconst (v := 0) hx hb dX12_calibrates_136 (by decide) ?_
          exact J_137 v1_97 v2_97 v3_97 v5_97 v6_97 v7_97 t0_97 v6_97 5 0 u18 _ _ hP hS _ (lv_sub hl [1, 2, 3, 4, 5, 6, 7, 0] rfl) hf hok
        · have hf := it_eq c20 hf
          have hok := it_ok c20 hok
          refine lv_aload_n hx hb dX12_calibrates_123 rfl (lv_at hl 1 rfl) ?_
          refine lv_iload hx hb dX12_calibrates_124 (lv_at hl 6 rfl) ?_
          refine lv_iconst (v := 5) hx hb dX12_calibrates_126 (by decide) ?_
          obtain ⟨h27, hok⟩ := hok
          refine gro_i (va_runV (As := [.int v6_97, .int 5]) (rest := [.int 5, .int v6_97, .ref (q 0)]) ⟨hx, hb, hml, hown, hts⟩ (mX12_of l dC dI cI cB cO cL q u18 v6_97 5  h27) (cwV 2 hts gX12_calibrates_X12_of rfl rfl rfl (by decide +kernel) ⟨Nat.le_of_ble_eq_true rfl, Nat.le_of_ble_eq_true rfl⟩) ⟨gP_blind, va_recv hK hP (ci := 9) (q0 := 0) rfl rfl, gP_ok hP hK⟩ rfl rfl hl.1 rfl (lv_room (Nat.le_of_ble_eq_true rfl)) dX12_calibrates_127 ⟨Nat.zero_le _, Nat.zero_le _⟩) ?_
          refine lv_iload hx hb dX12_calibrates_130 (lv_at hl 0 rfl) ?_
          refine lv_isub hx hb dX12_calibrates_132 ?_
          refine lv_goto (tgt := 137) hx hb dX12_calibrates_133 (by decide) ?_
          exact J_137 v1_97 v2_97 v3_97 v5_97 v6_97 v7_97 t0_97 v6_97 5 ((pX12_of u18 v6_97 5) - t0_97) u18 _ _ hP hS _ (lv_sub hl [1, 2, 3, 4, 5, 6, 7, 0] rfl) hf hok
      intro v1_23 v2_23 v3_23 v5_23 v6_23 m_23 H locs hP hS ls hl hf hok
      have hf : F = bX12_calibrates_L23 (pX12_calibrates_L23 n_23) v1_23 v2_23 v3_23 v5_23 v6_23 m_23 := hf
      have hok : kbX12_calibrates_L23 (kX12_calibrates_L23 n_23) v1_23 v2_23 v3_23 v5_23 v6_23 m_23 := hok
      refine lv_iload hx hb dX12_calibrates_23 (lv_at hl 5 rfl) ?_
      refine lv_aload_n hx hb dX12_calibrates_25 rfl (lv_at hl 0 rfl) ?_
      refine va_get (D := (dC, dI)) (ci := 9) (v := .ref (q 1)) (C := RX12) (T := TX12) (N := 23) hx hb hts hin12 hown hK hP 0 rfl rfl 0 (by decide) fl7 (fun _ h9 => h9) rfl dX12_calibrates_26 ?_
      refine lv_iconst (v := 2) hx hb dX12_calibrates_29 (by decide) ?_
      refine g_ialdK (D := (dC, dI)) (tys := (tYS cI cB cO cL)) (k := 2) hx hb hK hP 1 0 rfl rfl (by decide) (by decide) (by decide) dX12_calibrates_30 ?_
      refine lv_icmp_ge (tgt := 163) hx hb dX12_calibrates_31 (by decide) (fun c3 => ?_) (fun c3 => ?_)
      · have hf := it_eq c3 hf
        refine lv_aload_n hx hb dX12_calibrates_163 rfl (lv_at hl 0 rfl) ?_
        refine va_get (D := (dC, dI)) (ci := 9) (v := .ref (q 1)) (C := RX12) (T := TX12) (N := 23) hx hb hts hin12 hown hK hP 0 rfl rfl 0 (by decide) fl7 (fun _ h9 => h9) rfl dX12_calibrates_164 ?_
        refine lv_iconst (v := 5) hx hb dX12_calibrates_167 (by decide) ?_
        refine lv_dup2_11 hx hb dX12_calibrates_168 rfl rfl ?_
        refine g_ialdK (D := (dC, dI)) (tys := (tYS cI cB cO cL)) (k := 5) hx hb hK hP 1 0 rfl rfl (by decide) (by decide) (by decide) dX12_calibrates_169 ?_
        refine lv_iconst (v := 1) hx hb dX12_calibrates_170 (by decide) ?_
        refine lv_iadd hx hb dX12_calibrates_171 ?_
        refine g_iastK (D := (dC, dI)) (tys := (tYS cI cB cO cL)) (k := 5) hx hb hK hP (gD_va hD rfl) hS 1 0 rfl rfl (by decide) (by decide) (by decide) dX12_calibrates_172 (fun H locs hP hS => ?_)
        obtain ⟨m_4, em_4⟩ : ∃ z9 : MS, z9 = msa m_23 0 (upd (m_23.2.2 0) 5 (((m_23.2.2 0) 5) + 1)) := ⟨_, rfl⟩
        have hP : va_P (dC, dI) vwCl (mw q cI m_4) H := by rw [em_4]; exact hP
        have hf := lt_eq em_4 hf
        refine lv_aload_n hx hb dX12_calibrates_173 rfl (lv_at hl 0 rfl) ?_
        refine lv_iload hx hb dX12_calibrates_174 (lv_at hl 4 rfl) ?_
        refine va_put (D := (dC, dI)) (ci := 9) (v := .int v5_23) (ty := .int) (C := RX12) (T := TX12) (N := 23) hx hb hts hin12 tyX12 tyX12_ok nmX12 hown hK hP (gD_va hD rfl) hS 0 rfl rfl 14 (by decide) fl119 (fun _ h9 => h9) rfl (by decide +kernel) rfl rfl (Nat.le_of_ble_eq_true rfl) dX12_calibrates_176 (fun H locs hP _ hS => ?_)
        obtain ⟨m_5, em_5⟩ : ∃ z9 : MS, z9 = msi m_4 5 v5_23 := ⟨_, rfl⟩
        have hP : va_P (dC, dI) vwCl (mw q cI m_5) H := by rw [em_5]; exact hP
        have hf := lt_eq em_5 hf
        refine lv_iconst (v := 0) hx hb dX12_calibrates_179 (by decide) ?_
        exact e_mi C0 (hf.symm.trans hF) hP hS dX12_calibrates_180
      · have hf := ie_eq c3 hf
        have hok := ie_ok c3 hok
        refine lv_aload_n hx hb dX12_calibrates_34 rfl (lv_at hl 0 rfl) ?_
        refine lv_iload hx hb dX12_calibrates_35 (lv_at hl 5 rfl) ?_
        refine lv_iconst (v := 3) hx hb dX12_calibrates_37 (by decide) ?_
        obtain ⟨h6, hok⟩ := hok
        refine gro_i (va_runV (As := [.int v6_23, .int 3]) (rest := []) ⟨hx, hb, hml, hown, hts⟩ (mX12_of l dC dI cI cB cO cL q m_23 v6_23 3  h6) (cwV 2 hts gX12_calibrates_X12_of rfl rfl rfl (by decide +kernel) ⟨Nat.le_of_ble_eq_true rfl, Nat.le_of_ble_eq_true rfl⟩) ⟨gP_blind, va_recv hK hP (ci := 9) (q0 := 0) rfl rfl, gP_ok hP hK⟩ rfl rfl hl.1 rfl (lv_room (Nat.le_of_ble_eq_true rfl)) dX12_calibrates_38 ⟨Nat.zero_le _, Nat.zero_le _⟩) ?_
        refine lv_topi (fun x7 ex7 => ?_)
        have hf := lt_eq ex7 hf
        have hok := lt_ok ex7 hok
        refine lv_istore (lv' := [(7, .int x7), (0, .ref (q 0)), (1, .int v1_23), (2, .int v2_23), (3, .int v3_23), (5, .int v5_23), (6, .int v6_23)]) hx hb dX12_calibrates_41 hl (by decide) rfl (fun ls hl => ?_)
        refine lv_aload_n hx hb dX12_calibrates_43 rfl (lv_at hl 1 rfl) ?_
        refine lv_iload hx hb dX12_calibrates_44 (lv_at hl 6 rfl) ?_
        refine lv_iconst (v := 3) hx hb dX12_calibrates_46 (by decide) ?_
        refine lv_iconst (v := 0) hx hb dX12_calibrates_47 (by decide) ?_
        obtain ⟨h8, hok⟩ := hok
        refine gms_v (va_runV (As := [.int v6_23, .int 3, .int 0]) (rest := []) ⟨hx, hb, hml, hown, hts⟩ (mX12_puts l dC dI cI cB cO cL q m_23 v6_23 3 0 (gD_any hD) h8) (cwV 3 hts gX12_calibrates_X12_puts rfl rfl rfl (by decide +kernel) ⟨Nat.le_of_ble_eq_true rfl, Nat.le_of_ble_eq_true rfl⟩) ⟨gP_blind, va_recv hK hP (ci := 9) (q0 := 0) rfl rfl, gP_ok hP hK⟩ rfl rfl hl.1 rfl (lv_room (Nat.le_of_ble_eq_true rfl)) dX12_calibrates_48 ⟨Nat.zero_le _, Nat.zero_le _⟩) hP (gD_va hD rfl) hS (fun u10 H locs hw hP hS => ?_)
        have hP : va_P (dC, dI) vwCl (mw q cI u10) H := hP
        have hf := lt_eq hw hf
        have hok := lt_ok hw hok
        refine lv_aload_n hx hb dX12_calibrates_51 rfl (lv_at hl 1 rfl) ?_
        refine lv_iload_n hx hb dX12_calibrates_52 rfl (lv_at hl 2 rfl) ?_
        refine lv_iload_n hx hb dX12_calibrates_53 rfl (lv_at hl 3 rfl) ?_
        refine lv_iload_n hx hb dX12_calibrates_54 rfl (lv_at hl 4 rfl) ?_
        refine lv_iload hx hb dX12_calibrates_55 (lv_at hl 6 rfl) ?_
        obtain ⟨h11, hok⟩ := hok
        refine gms_v (va_runV (As := [.int v1_23, .int v2_23, .int v3_23, .int v6_23]) (rest := []) ⟨hx, hb, hml, hown, hts⟩ (mX12_notes l dC dI cI cB cO cL q u10 v1_23 v2_23 v3_23 v6_23 (gD_any hD) h11) (cwV 4 hts gX12_calibrates_X12_notes rfl rfl rfl (by decide +kernel) ⟨Nat.le_of_ble_eq_true rfl, Nat.le_of_ble_eq_true rfl⟩) ⟨gP_blind, va_recv hK hP (ci := 9) (q0 := 0) rfl rfl, gP_ok hP hK⟩ rfl rfl hl.1 rfl (lv_room (Nat.le_of_ble_eq_true rfl)) dX12_calibrates_57 ⟨Nat.zero_le _, Nat.zero_le _⟩) hP (gD_va hD rfl) hS (fun u13 H locs hw hP hS => ?_)
        have hP : va_P (dC, dI) vwCl (mw q cI u13) H := hP
        have hf := lt_eq hw hf
        have hok := lt_ok hw hok
        refine lv_aload_n hx hb dX12_calibrates_60 rfl (lv_at hl 1 rfl) ?_
        refine lv_iload hx hb dX12_calibrates_61 (lv_at hl 6 rfl) ?_
        refine lv_iconst (v := 4) hx hb dX12_calibrates_63 (by decide) ?_
        obtain ⟨h14, hok⟩ := hok
        refine gro_i (va_runV (As := [.int v6_23, .int 4]) (rest := []) ⟨hx, hb, hml, hown, hts⟩ (mX12_of l dC dI cI cB cO cL q u13 v6_23 4  h14) (cwV 2 hts gX12_calibrates_X12_of rfl rfl rfl (by decide +kernel) ⟨Nat.le_of_ble_eq_true rfl, Nat.le_of_ble_eq_true rfl⟩) ⟨gP_blind, va_recv hK hP (ci := 9) (q0 := 0) rfl rfl, gP_ok hP hK⟩ rfl rfl hl.1 rfl (lv_room (Nat.le_of_ble_eq_true rfl)) dX12_calibrates_64 ⟨Nat.zero_le _, Nat.zero_le _⟩) ?_
        refine lv_iconst (v := 1) hx hb dX12_calibrates_67 (by decide) ?_
        refine lv_icmp_ne (tgt := 96) hx hb dX12_calibrates_68 (by decide) (fun c15 => ?_) (fun c15 => ?_)
        · have hf := ie_eq c15 hf
          have hok := ie_ok c15 hok
          refine lv_iconst (v := 0) hx hb dX12_calibrates_96 (by decide) ?_
          exact J_97 v1_23 v2_23 v3_23 v5_23 v6_23 x7 0 u13 _ _ hP hS _ (lv_sub hl [1, 2, 3, 4, 5, 6, 0] rfl) hf hok
        · have hf := it_eq c15 hf
          have hok := it_ok c15 hok
          refine lv_aload_n hx hb dX12_calibrates_71 rfl (lv_at hl 1 rfl) ?_
          refine lv_iload hx hb dX12_calibrates_72 (lv_at hl 6 rfl) ?_
          refine lv_iconst (v := 5) hx hb dX12_calibrates_74 (by decide) ?_
          obtain ⟨h28, hok⟩ := hok
          refine gro_i (va_runV (As := [.int v6_23, .int 5]) (rest := []) ⟨hx, hb, hml, hown, hts⟩ (mX12_of l dC dI cI cB cO cL q u13 v6_23 5  h28) (cwV 2 hts gX12_calibrates_X12_of rfl rfl rfl (by decide +kernel) ⟨Nat.le_of_ble_eq_true rfl, Nat.le_of_ble_eq_true rfl⟩) ⟨gP_blind, va_recv hK hP (ci := 9) (q0 := 0) rfl rfl, gP_ok hP hK⟩ rfl rfl hl.1 rfl (lv_room (Nat.le_of_ble_eq_true rfl)) dX12_calibrates_75 ⟨Nat.zero_le _, Nat.zero_le _⟩) ?_
          refine lv_iload_n hx hb dX12_calibrates_78 rfl (lv_at hl 4 rfl) ?_
          refine lv_isub hx hb dX12_calibrates_79 ?_
          refine lv_aload_n hx hb dX12_calibrates_80 rfl (lv_at hl 1 rfl) ?_
          refine lv_aload_n hx hb dX12_calibrates_81 rfl (lv_at hl 1 rfl) ?_
          refine lv_iload_n hx hb dX12_calibrates_82 rfl (lv_at hl 2 rfl) ?_
          refine lv_iload_n hx hb dX12_calibrates_83 rfl (lv_at hl 3 rfl) ?_
          refine lv_iload hx hb dX12_calibrates_84 (lv_at hl 6 rfl) ?_
          obtain ⟨h29, hok⟩ := hok
          refine gro_i (va_runV (As := [.int v1_23, .int v2_23, .int v6_23]) (rest := [.ref (q 0), .int ((pX12_of u13 v6_23 5) - v3_23)]) ⟨hx, hb, hml, hown, hts⟩ (mX12_wayTo l dC dI cI cB cO cL q u13 v1_23 v2_23 v6_23  h29) (cwV 3 hts gX12_calibrates_X12_wayTo rfl rfl rfl (by decide +kernel) ⟨Nat.le_of_ble_eq_true rfl, Nat.le_of_ble_eq_true rfl⟩) ⟨gP_blind, va_recv hK hP (ci := 9) (q0 := 0) rfl rfl, gP_ok hP hK⟩ rfl rfl hl.1 rfl (lv_room (Nat.le_of_ble_eq_true rfl)) dX12_calibrates_86 ⟨Nat.zero_le _, Nat.zero_le _⟩) ?_
          obtain ⟨h30, hok⟩ := hok
          refine gro_i (va_runV (As := [.int (pX12_wayTo u13 v1_23 v2_23 v6_23)]) (rest := [.int ((pX12_of u13 v6_23 5) - v3_23)]) ⟨hx, hb, hml, hown, hts⟩ (mX12_timeOf l dC dI cI cB cO cL q u13 (pX12_wayTo u13 v1_23 v2_23 v6_23)  h30) (cwV 1 hts gX12_calibrates_X12_timeOf rfl rfl rfl (by decide +kernel) ⟨Nat.le_of_ble_eq_true rfl, Nat.le_of_ble_eq_true rfl⟩) ⟨gP_blind, va_recv hK hP (ci := 9) (q0 := 0) rfl rfl, gP_ok hP hK⟩ rfl rfl hl.1 rfl (lv_room (Nat.le_of_ble_eq_true rfl)) dX12_calibrates_89 ⟨Nat.zero_le _, Nat.zero_le _⟩) ?_
          refine lv_isub hx hb dX12_calibrates_92 ?_
          refine lv_goto (tgt := 97) hx hb dX12_calibrates_93 (by decide) ?_
          exact J_97 v1_23 v2_23 v3_23 v5_23 v6_23 x7 (((pX12_of u13 v6_23 5) - v3_23) - (pX12_timeOf u13 (pX12_wayTo u13 v1_23 v2_23 v6_23))) u13 _ _ hP hS _ (lv_sub hl [1, 2, 3, 4, 5, 6, 0] rfl) hf hok
  refine lv_aload_n hx hb dX12_calibrates_0 rfl (lv_at hl 0 rfl) ?_
  refine lv_iload_n hx hb dX12_calibrates_1 rfl (lv_at hl 1 rfl) ?_
  refine lv_iload_n hx hb dX12_calibrates_2 rfl (lv_at hl 2 rfl) ?_
  refine lv_iload_n hx hb dX12_calibrates_3 rfl (lv_at hl 3 rfl) ?_
  refine gro_i (va_runV (As := [.int a1, .int a2, .int a3]) (rest := []) ⟨hx, hb, hml, hown, hts⟩ (mX12_mayClick l dC dI cI cB cO cL q m a1 a2 a3  ) (cwV 3 hts gX12_calibrates_X12_mayClick rfl rfl rfl (by decide +kernel) ⟨Nat.le_of_ble_eq_true rfl, Nat.le_of_ble_eq_true rfl⟩) ⟨gP_blind, va_recv hK hP (ci := 9) (q0 := 0) rfl rfl, gP_ok hP hK⟩ rfl rfl hl.1 rfl (lv_room (Nat.le_of_ble_eq_true rfl)) dX12_calibrates_4 ⟨Nat.zero_le _, Nat.zero_le _⟩) ?_
  refine lv_topi (fun x1 ex1 => ?_)
  have hf := lt_eq ex1 hf
  have hok := lt_ok ex1 hok
  refine lv_istore (lv' := [(4, .int x1), (0, .ref (q 0)), (1, .int a1), (2, .int a2), (3, .int a3)]) hx hb dX12_calibrates_7 hl (by decide) rfl (fun ls hl => ?_)
  refine lv_iload hx hb dX12_calibrates_9 (lv_at hl 0 rfl) ?_
  refine lv_if_le (tgt := 17) hx hb dX12_calibrates_11 (by decide) (fun c2 => ?_) (fun c2 => ?_)
  · have hf := it_eq c2 hf
    have hok := it_ok c2 hok
    refine lv_iconst (v := 0) hx hb dX12_calibrates_17 (by decide) ?_
    refine lv_istore (lv' := [(5, .int 0), (4, .int x1), (0, .ref (q 0)), (1, .int a1), (2, .int a2), (3, .int a3)]) hx hb dX12_calibrates_18 hl (by decide) rfl (fun ls hl => ?_)
    refine lv_iconst (v := 0) hx hb dX12_calibrates_20 (by decide) ?_
    refine lv_istore (lv' := [(6, .int 0), (5, .int 0), (4, .int x1), (0, .ref (q 0)), (1, .int a1), (2, .int a2), (3, .int a3)]) hx hb dX12_calibrates_21 hl (by decide) rfl (fun ls hl => ?_)
    exact J_23 fu a1 a2 a3 0 0 m _ _ hP hS _ (lv_sub hl [3, 4, 5, 6, 1, 0] rfl) hf hok
  · have hf := ie_eq c2 hf
    refine lv_iload hx hb dX12_calibrates_14 (lv_at hl 0 rfl) ?_
    exact e_mi C0 (hf.symm.trans hF) hP hS dX12_calibrates_16
