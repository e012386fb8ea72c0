noncomputable def pX12_isNumber_L91   (v2_91 : Int32) (m_91 : MS) : Bool × MS := if (m_91.1 7) ≤ v2_91 then ((false, m_91)) else (if (pX12_isAt m_91 48 57) = true then ((false, m_91)) else ((true, m_91)))
def kX12_isNumber_L91   (v2_91 : Int32) (m_91 : MS) : Prop := if (m_91.1 7) ≤ v2_91 then (True) else (kX12_isAt m_91 48 57)
noncomputable def bX12_isNumber_L29   (q_29 : Int32 → Int32 → MS → (Bool × MS)) (v1_29 : Int32) (v2_29 : Int32) (m_29 : MS) : Bool × MS := if 5 ≤ ((m_29.1 7) - v2_29) then (pX12_isNumber_L91 v2_29 m_29) else (if (pX12_isAt m_29 48 57) = true then (lt (msa m_29 12 (upd (m_29.2.2 12) v1_29.toNatClampNeg (((10 * ((m_29.2.2 12) v1_29.toNatClampNeg)) + ((m_29.2.2 3) ((m_29.1 7).toNatClampNeg))) - 48))) fun (m_16 : MS) => lt (msi m_16 7 ((m_16.1 7) + 1)) fun (m_17 : MS) => q_29 v1_29 v2_29 m_17) else (pX12_isNumber_L91 v2_29 m_29))
noncomputable def pX12_isNumber_L29   : Nat → Int32 → Int32 → MS → (Bool × MS)
  | 0 => fun _ _ m_29 => (false, m_29)
  | n + 1 => bX12_isNumber_L29   (pX12_isNumber_L29   n)
def kbX12_isNumber_L29   (Q_29 : Int32 → Int32 → MS → Prop) (v1_29 : Int32) (v2_29 : Int32) (m_29 : MS) : Prop := if 5 ≤ ((m_29.1 7) - v2_29) then (kX12_isNumber_L91 v2_29 m_29) else ((kX12_isAt m_29 48 57) ∧ (if (pX12_isAt m_29 48 57) = true then ((vp_in v1_29 4) ∧ ((vp_in (m_29.1 7) 150) ∧ ((vp_in v1_29 4) ∧ (lt (msa m_29 12 (upd (m_29.2.2 12) v1_29.toNatClampNeg (((10 * ((m_29.2.2 12) v1_29.toNatClampNeg)) + ((m_29.2.2 3) ((m_29.1 7).toNatClampNeg))) - 48))) fun (m_16 : MS) => lt (msi m_16 7 ((m_16.1 7) + 1)) fun (m_17 : MS) => Q_29 v1_29 v2_29 m_17)))) else (kX12_isNumber_L91 v2_29 m_29)))
noncomputable def kX12_isNumber_L29   : Nat → Int32 → Int32 → MS → Prop
  | 0 => fun _ _ _ => False
  | n + 1 => kbX12_isNumber_L29   (kX12_isNumber_L29   n)
noncomputable def pX12_isNumber (m : MS) (a1 : Int32) : Bool × MS := if (pX12_isAt m 32 32) = true then (lt (pX12_skips m) fun (u5 : MS) => lt (u5.1 7) fun (x6 : Int32) => lt (msa u5 12 (upd (u5.2.2 12) a1.toNatClampNeg 0)) fun (m_8 : MS) => pX12_isNumber_L29 fu a1 x6 m_8) else ((false, m))
def kX12_isNumber (m : MS) (a1 : Int32) : Prop := (kX12_isAt m 32 32) ∧ (if (pX12_isAt m 32 32) = true then ((kX12_skips m) ∧ (lt (pX12_skips m) fun (u5 : MS) => lt (u5.1 7) fun (x6 : Int32) => (vp_in a1 4) ∧ (lt (msa u5 12 (upd (u5.2.2 12) a1.toNatClampNeg 0)) fun (m_8 : MS) => kX12_isNumber_L29 fu a1 x6 m_8))) else (True))
abbrev rX12_isNumber : Room := { frames := 3, cells := 0, slots := 0, locals := 64 }
set_option maxHeartbeats 4000000 in
set_option maxRecDepth 100000 in
theorem mX12_isNumber (l : Launch) (dC : Nat → ClassId) (dI : Nat → Nat → Nat) (cI cB cO cL : ClassId) (q : Nat → Nat) (m : MS) (a1 : Int32) (hI : gD (fun _ => True) (mAd q)) (hok : kX12_isNumber m a1) : Met l yX12_isNumber wsX12_isNumber rX12_isNumber (gP (dC, dI) (tYS cI cB cO cL) (mw q cI m) [.ref (q 0), .int a1]) (gQz (dC, dI) (fun m9 => mw q cI m9) (wA (mw q cI m)) (pX12_isNumber m a1)) 0 0 (wA (mw q cI m)) := by
  refine gMet (cc := cX12_isNumber) (maxL := 3) (ret := some .boolean) [(0, .ref (q 0)), (1, .int a1)] (by decide) rfl rfl rfl ?_
  intro p e s mi below meth c C0 hK hP ls hl
  obtain ⟨hx, hb, hr, hml, hown, hts, hlocks⟩ := id C0
  have hown : s.vm.findClass RX12 = some mi.cls := hown
  have hS : va_S (wA (mw q cI m)) s.heap s.heap [] := va_S.rf
  have hD : gD (wA (mw q cI m)) (mAd q) := gD_wA (ws := mw q cI m) hI
  have hP : va_P (dC, dI) vwCl (mw q cI m) s.heap := hP
  obtain ⟨F, hF⟩ : ∃ F, F = pX12_isNumber m a1 := ⟨_, rfl⟩
  have hf := hF
  have hin12 : ∀ w ∈ u_ws RX12 TX12 23, w ∈ wsX12_isNumber := by decide +kernel
  have fl238 := hts (.fieldLink RX12 238 "ClickBenchModel" "spot" "I") (by decide +kernel)
  have fl46 := hts (.fieldLink RX12 46 "ClickBenchModel" "numbers" "[I") (by decide +kernel)
  have fl19 := hts (.fieldLink RX12 19 "ClickBenchModel" "text" "[I") (by decide +kernel)
  have J_91 : ∀ (v2_91 : Int32) (m_91 : MS) (H : Heap) (locs : List Loc), va_P (dC, dI) vwCl (mw q cI m_91) H → va_S (wA (mw q cI m)) s.heap H locs → ∀ ls : Array Slot, lv_has ls 3 [(0, .ref (q 0)), (2, .int v2_91)] → F = pX12_isNumber_L91 v2_91 m_91 → kX12_isNumber_L91 v2_91 m_91 → W p l e rX12_isNumber s mi ([.ref (q 0), .int a1] : List Value).toArray below meth c H locs 0 0 (MQ below (gQz (dC, dI) (fun m9 => mw q cI m9) (wA (mw q cI m)) (pX12_isNumber m a1)) ([.ref (q 0), .int a1] : List Value).toArray s 0 0 (wA (mw q cI m))) (F0 mi 91 ls []) := by
    intro v2_91 m_91 H locs hP hS ls hl hf hok
    refine lv_aload_n hx hb dX12_isNumber_91 rfl (lv_at hl 0 rfl) ?_
    refine va_get (D := (dC, dI)) (ci := 9) (v := .int (m_91.1 7)) (C := RX12) (T := TX12) (N := 23) hx hb hts hin12 hown hK hP 0 rfl rfl 19 (by decide) fl238 (fun _ h9 => h9) rfl dX12_isNumber_92 ?_
    refine lv_iload_n hx hb dX12_isNumber_95 rfl (lv_at hl 1 rfl) ?_
    refine lv_icmp_le (tgt := 114) hx hb dX12_isNumber_96 (by decide) (fun c10 => ?_) (fun c10 => ?_)
    · have hf := it_eq c10 hf
      refine lv_iconst (v := 0) hx hb dX12_isNumber_114 (by decide) ?_
      exact e_mz C0 (b := false) rfl (hf.symm.trans hF) hP hS dX12_isNumber_115
    · have hf := ie_eq c10 hf
      have hok := ie_ok c10 hok
      refine lv_aload_n hx hb dX12_isNumber_99 rfl (lv_at hl 0 rfl) ?_
      refine lv_bipush (v := 48) hx hb dX12_isNumber_100 (by decide) ?_
      refine lv_bipush (v := 57) hx hb dX12_isNumber_102 (by decide) ?_
      have h11 : kX12_isAt m_91 48 57 := hok
      refine gro_i (va_runV (As := [.int 48, .int 57]) (rest := []) ⟨hx, hb, hml, hown, hts⟩ (mX12_isAt l dC dI cI cB cO cL q m_91 48 57  h11) (cwV 2 hts gX12_isNumber_X12_isAt rfl rfl rfl (by decide +kernel) ⟨Nat.le_of_ble_eq_true rfl, Nat.le_of_ble_eq_true rfl⟩) ⟨gP_blind, va_recv hK hP (ci := 9) (q0 := 0) rfl rfl, gP_ok hP hK⟩ rfl rfl hl.1 rfl (lv_room (Nat.le_of_ble_eq_true rfl)) dX12_isNumber_104 ⟨Nat.zero_le _, Nat.zero_le _⟩) ?_
      refine lv_if_ne (tgt := 114) hx hb dX12_isNumber_107 (by decide) (fun c12 => ?_) (fun c12 => ?_)
      · have c12 := bz_t c12
        have hf := it_eq c12 hf
        refine lv_iconst (v := 0) hx hb dX12_isNumber_114 (by decide) ?_
        exact e_mz C0 (b := false) rfl (hf.symm.trans hF) hP hS dX12_isNumber_115
      · have c12 := bz_f c12
        have hf := ie_eq c12 hf
        refine lv_iconst (v := 1) hx hb dX12_isNumber_110 (by decide) ?_
        refine lv_goto (tgt := 115) hx hb dX12_isNumber_111 (by decide) ?_
        exact e_mz C0 (b := true) rfl (hf.symm.trans hF) hP hS dX12_isNumber_115
  have J_29 : ∀ (n_29 : Nat) (v1_29 : Int32) (v2_29 : Int32) (m_29 : MS) (H : Heap) (locs : List Loc), va_P (dC, dI) vwCl (mw q cI m_29) H → va_S (wA (mw q cI m)) s.heap H locs → ∀ ls : Array Slot, lv_has ls 3 [(0, .ref (q 0)), (1, .int v1_29), (2, .int v2_29)] → F = pX12_isNumber_L29 n_29 v1_29 v2_29 m_29 → kX12_isNumber_L29 n_29 v1_29 v2_29 m_29 → W p l e rX12_isNumber s mi ([.ref (q 0), .int a1] : List Value).toArray below meth c H locs 0 0 (MQ below (gQz (dC, dI) (fun m9 => mw q cI m9) (wA (mw q cI m)) (pX12_isNumber m a1)) ([.ref (q 0), .int a1] : List Value).toArray s 0 0 (wA (mw q cI m))) (F0 mi 29 ls []) := by
    intro n_29
    induction n_29 with
    | zero =>
      intro v1_29 v2_29 m_29 H locs hP hS ls hl hf hok
      exact absurd hok (fun h => h)
    | succ n_29 ih_29 =>
      intro v1_29 v2_29 m_29 H locs hP hS ls hl hf hok
      have hf : F = bX12_isNumber_L29 (pX12_isNumber_L29 n_29) v1_29 v2_29 m_29 := hf
      have hok : kbX12_isNumber_L29 (kX12_isNumber_L29 n_29) v1_29 v2_29 m_29 := hok
      refine lv_aload_n hx hb dX12_isNumber_29 rfl (lv_at hl 0 rfl) ?_
      refine va_get (D := (dC, dI)) (ci := 9) (v := .int (m_29.1 7)) (C := RX12) (T := TX12) (N := 23) hx hb hts hin12 hown hK hP 0 rfl rfl 19 (by decide) fl238 (fun _ h9 => h9) rfl dX12_isNumber_30 ?_
      refine lv_iload_n hx hb dX12_isNumber_33 rfl (lv_at hl 2 rfl) ?_
      refine lv_isub hx hb dX12_isNumber_34 ?_
      refine lv_iconst (v := 5) hx hb dX12_isNumber_35 (by decide) ?_
      refine lv_icmp_ge (tgt := 91) hx hb dX12_isNumber_36 (by decide) (fun c9 => ?_) (fun c9 => ?_)
      · have hf := it_eq c9 hf
        have hok := it_ok c9 hok
        exact J_91 v2_29 m_29 _ _ hP hS _ (lv_sub hl [0, 2] rfl) hf hok
      · have hf := ie_eq c9 hf
        have hok := ie_ok c9 hok
        refine lv_aload_n hx hb dX12_isNumber_39 rfl (lv_at hl 0 rfl) ?_
        refine lv_bipush (v := 48) hx hb dX12_isNumber_40 (by decide) ?_
        refine lv_bipush (v := 57) hx hb dX12_isNumber_42 (by decide) ?_
        obtain ⟨h13, hok⟩ := hok
        refine gro_i (va_runV (As := [.int 48, .int 57]) (rest := []) ⟨hx, hb, hml, hown, hts⟩ (mX12_isAt l dC dI cI cB cO cL q m_29 48 57  h13) (cwV 2 hts gX12_isNumber_X12_isAt rfl rfl rfl (by decide +kernel) ⟨Nat.le_of_ble_eq_true rfl, Nat.le_of_ble_eq_true rfl⟩) ⟨gP_blind, va_recv hK hP (ci := 9) (q0 := 0) rfl rfl, gP_ok hP hK⟩ rfl rfl hl.1 rfl (lv_room (Nat.le_of_ble_eq_true rfl)) dX12_isNumber_44 ⟨Nat.zero_le _, Nat.zero_le _⟩) ?_
        refine lv_if_eq (tgt := 91) hx hb dX12_isNumber_47 (by decide) (fun c14 => ?_) (fun c14 => ?_)
        · have c14 := bz_f c14
          have hf := ie_eq c14 hf
          have hok := ie_ok c14 hok
          exact J_91 v2_29 m_29 _ _ hP hS _ (lv_sub hl [0, 2] rfl) hf hok
        · have c14 := bz_t c14
          have hf := it_eq c14 hf
          have hok := it_ok c14 hok
          refine lv_aload_n hx hb dX12_isNumber_50 rfl (lv_at hl 0 rfl) ?_
          refine va_get (D := (dC, dI)) (ci := 9) (v := .ref (q 13)) (C := RX12) (T := TX12) (N := 23) hx hb hts hin12 hown hK hP 0 rfl rfl 21 (by decide) fl46 (fun _ h9 => h9) rfl dX12_isNumber_51 ?_
          refine lv_iload_n hx hb dX12_isNumber_54 rfl (lv_at hl 1 rfl) ?_
          refine lv_bipush (v := 10) hx hb dX12_isNumber_55 (by decide) ?_
          refine lv_aload_n hx hb dX12_isNumber_57 rfl (lv_at hl 0 rfl) ?_
          refine va_get (D := (dC, dI)) (ci := 9) (v := .ref (q 13)) (C := RX12) (T := TX12) (N := 23) hx hb hts hin12 hown hK hP 0 rfl rfl 21 (by decide) fl46 (fun _ h9 => h9) rfl dX12_isNumber_58 ?_
          refine lv_iload_n hx hb dX12_isNumber_61 rfl (lv_at hl 1 rfl) ?_
          obtain ⟨h19, hok⟩ := hok
          refine va_iald (D := (dC, dI)) (tys := (tYS cI cB cO cL)) hx hb hK hP 13 0 rfl rfl h19 dX12_isNumber_62 ?_
          refine lv_imul hx hb dX12_isNumber_63 ?_
          refine lv_aload_n hx hb dX12_isNumber_64 rfl (lv_at hl 0 rfl) ?_
          refine va_get (D := (dC, dI)) (ci := 9) (v := .ref (q 4)) (C := RX12) (T := TX12) (N := 23) hx hb hts hin12 hown hK hP 0 rfl rfl 4 (by decide) fl19 (fun _ h9 => h9) rfl dX12_isNumber_65 ?_
          refine lv_aload_n hx hb dX12_isNumber_68 rfl (lv_at hl 0 rfl) ?_
          refine va_get (D := (dC, dI)) (ci := 9) (v := .int (m_29.1 7)) (C := RX12) (T := TX12) (N := 23) hx hb hts hin12 hown hK hP 0 rfl rfl 19 (by decide) fl238 (fun _ h9 => h9) rfl dX12_isNumber_69 ?_
          obtain ⟨h18, hok⟩ := hok
          refine va_iald (D := (dC, dI)) (tys := (tYS cI cB cO cL)) hx hb hK hP 4 0 rfl rfl h18 dX12_isNumber_72 ?_
          refine lv_iadd hx hb dX12_isNumber_73 ?_
          refine lv_bipush (v := 48) hx hb dX12_isNumber_74 (by decide) ?_
          refine lv_isub hx hb dX12_isNumber_76 ?_
          obtain ⟨h15, hok⟩ := hok
          refine va_iast (D := (dC, dI)) (tys := (tYS cI cB cO cL)) hx hb hK hP (gD_va hD rfl) hS 13 0 rfl rfl h15 dX12_isNumber_77 (fun H locs hP _ hS => ?_)
          obtain ⟨m_16, em_16⟩ : ∃ z9 : MS, z9 = msa m_29 12 (upd (m_29.2.2 12) v1_29.toNatClampNeg (((10 * ((m_29.2.2 12) v1_29.toNatClampNeg)) + ((m_29.2.2 3) ((m_29.1 7).toNatClampNeg))) - 48)) := ⟨_, rfl⟩
          have hP : va_P (dC, dI) vwCl (mw q cI m_16) H := by rw [em_16]; exact hP
          have hf := lt_eq em_16 hf
          have hok := lt_ok em_16 hok
          refine lv_aload_n hx hb dX12_isNumber_78 rfl (lv_at hl 0 rfl) ?_
          refine lv_dup hx hb dX12_isNumber_79 rfl ?_
          refine va_get (D := (dC, dI)) (ci := 9) (v := .int (m_16.1 7)) (C := RX12) (T := TX12) (N := 23) hx hb hts hin12 hown hK hP 0 rfl rfl 19 (by decide) fl238 (fun _ h9 => h9) rfl dX12_isNumber_80 ?_
          refine lv_iconst (v := 1) hx hb dX12_isNumber_83 (by decide) ?_
          refine lv_iadd hx hb dX12_isNumber_84 ?_
          refine va_put (D := (dC, dI)) (ci := 9) (v := .int ((m_16.1 7) + 1)) (ty := .int) (C := RX12) (T := TX12) (N := 23) hx hb hts hin12 tyX12 tyX12_ok nmX12 hown hK hP (gD_va hD rfl) hS 0 rfl rfl 19 (by decide) fl238 (fun _ h9 => h9) rfl (by decide +kernel) rfl rfl (Nat.le_of_ble_eq_true rfl) dX12_isNumber_85 (fun H locs hP _ hS => ?_)
          obtain ⟨m_17, em_17⟩ : ∃ z9 : MS, z9 = msi m_16 7 ((m_16.1 7) + 1) := ⟨_, rfl⟩
          have hP : va_P (dC, dI) vwCl (mw q cI m_17) H := by rw [em_17]; exact hP
          have hf := lt_eq em_17 hf
          have hok := lt_ok em_17 hok
          refine lv_goto (tgt := 29) hx hb dX12_isNumber_88 (by decide) ?_
          exact ih_29 v1_29 v2_29 m_17 _ _ hP hS _ (lv_sub hl [0, 1, 2] rfl) hf hok
  refine lv_aload_n hx hb dX12_isNumber_0 rfl (lv_at hl 0 rfl) ?_
  refine lv_bipush (v := 32) hx hb dX12_isNumber_1 (by decide) ?_
  refine lv_bipush (v := 32) hx hb dX12_isNumber_3 (by decide) ?_
  obtain ⟨h1, hok⟩ := hok
  refine gro_i (va_runV (As := [.int 32, .int 32]) (rest := []) ⟨hx, hb, hml, hown, hts⟩ (mX12_isAt l dC dI cI cB cO cL q m 32 32  h1) (cwV 2 hts gX12_isNumber_X12_isAt rfl rfl rfl (by decide +kernel) ⟨Nat.le_of_ble_eq_true rfl, Nat.le_of_ble_eq_true rfl⟩) ⟨gP_blind, va_recv hK hP (ci := 9) (q0 := 0) rfl rfl, gP_ok hP hK⟩ rfl rfl hl.1 rfl (lv_room (Nat.le_of_ble_eq_true rfl)) dX12_isNumber_5 ⟨Nat.zero_le _, Nat.zero_le _⟩) ?_
  refine lv_if_ne (tgt := 13) hx hb dX12_isNumber_8 (by decide) (fun c2 => ?_) (fun c2 => ?_)
  · have c2 := bz_t c2
    have hf := it_eq c2 hf
    have hok := it_ok c2 hok
    refine lv_aload_n hx hb dX12_isNumber_13 rfl (lv_at hl 0 rfl) ?_
    obtain ⟨h3, hok⟩ := hok
    refine gms_v (va_runV (As := []) (rest := []) ⟨hx, hb, hml, hown, hts⟩ (mX12_skips l dC dI cI cB cO cL q m (gD_any hD) h3) (cwV 0 hts gX12_isNumber_X12_skips rfl rfl rfl (by decide +kernel) ⟨Nat.le_of_ble_eq_true rfl, Nat.le_of_ble_eq_true rfl⟩) ⟨gP_blind, va_recv hK hP (ci := 9) (q0 := 0) rfl rfl, gP_ok hP hK⟩ rfl rfl hl.1 rfl (lv_room (Nat.le_of_ble_eq_true rfl)) dX12_isNumber_14 ⟨Nat.zero_le _, Nat.zero_le _⟩) hP (gD_va hD rfl) hS (fun u5 H locs hw hP hS => ?_)
    have hP : va_P (dC, dI) vwCl (mw q cI u5) H := hP
    have hf := lt_eq hw hf
    have hok := lt_ok hw hok
    refine lv_aload_n hx hb dX12_isNumber_17 rfl (lv_at hl 0 rfl) ?_
    refine va_get (D := (dC, dI)) (ci := 9) (v := .int (u5.1 7)) (C := RX12) (T := TX12) (N := 23) hx hb hts hin12 hown hK hP 0 rfl rfl 19 (by decide) fl238 (fun _ h9 => h9) rfl dX12_isNumber_18 ?_
    refine lv_topi (fun x6 ex6 => ?_)
    have hf := lt_eq ex6 hf
    have hok := lt_ok ex6 hok
    refine lv_istore_n (lv' := [(2, .int x6), (0, .ref (q 0)), (1, .int a1)]) hx hb dX12_isNumber_21 rfl hl (by decide) rfl (fun ls hl => ?_)
    refine lv_aload_n hx hb dX12_isNumber_22 rfl (lv_at hl 1 rfl) ?_
    refine va_get (D := (dC, dI)) (ci := 9) (v := .ref (q 13)) (C := RX12) (T := TX12) (N := 23) hx hb hts hin12 hown hK hP 0 rfl rfl 21 (by decide) fl46 (fun _ h9 => h9) rfl dX12_isNumber_23 ?_
    refine lv_iload_n hx hb dX12_isNumber_26 rfl (lv_at hl 2 rfl) ?_
    refine lv_iconst (v := 0) hx hb dX12_isNumber_27 (by decide) ?_
    obtain ⟨h7, hok⟩ := hok
    refine va_iast (D := (dC, dI)) (tys := (tYS cI cB cO cL)) hx hb hK hP (gD_va hD rfl) hS 13 0 rfl rfl h7 dX12_isNumber_28 (fun H locs hP _ hS => ?_)
    obtain ⟨m_8, em_8⟩ : ∃ z9 : MS, z9 = msa u5 12 (upd (u5.2.2 12) a1.toNatClampNeg 0) := ⟨_, rfl⟩
    have hP : va_P (dC, dI) vwCl (mw q cI m_8) H := by rw [em_8]; exact hP
    have hf := lt_eq em_8 hf
    have hok := lt_ok em_8 hok
    exact J_29 fu a1 x6 m_8 _ _ hP hS _ (lv_sub hl [1, 2, 0] rfl) hf hok
  · have c2 := bz_f c2
    have hf := ie_eq c2 hf
    refine lv_iconst (v := 0) hx hb dX12_isNumber_11 (by decide) ?_
    exact e_mz C0 (b := false) rfl (hf.symm.trans hF) hP hS dX12_isNumber_12
noncomputable def bX12_isCommand_L19   (q_19 : Int32 → Int32 → MS → (Bool × MS)) (v1_19 : Int32) (v2_19 : Int32) (m_19 : MS) : Bool × MS := if v1_19 ≤ v2_19 then (lt (pX12_skips m_19) fun (u9 : MS) => if (pX12_isAt u9 59 59) = true then (lt (msi u9 7 ((u9.1 7) + 1)) fun (m_12 : MS) => lt (pX12_skips m_12) fun (u15 : MS) => (true, u15)) else ((false, u9))) else (bd (pX12_isNumber m_19 v2_19) fun (r17 : Bool) (u18 : MS) => if r17 = true then (lt (v2_19 + 1) fun (x20 : Int32) => q_19 v1_19 x20 u18) else ((false, u18)))
noncomputable def pX12_isCommand_L19   : Nat → Int32 → Int32 → MS → (Bool × MS)
  | 0 => fun _ _ m_19 => (false, m_19)
  | n + 1 => bX12_isCommand_L19   (pX12_isCommand_L19   n)
def kbX12_isCommand_L19   (Q_19 : Int32 → Int32 → MS → Prop) (v1_19 : Int32) (v2_19 : Int32) (m_19 : MS) : Prop := if v1_19 ≤ v2_19 then ((kX12_skips m_19) ∧ (lt (pX12_skips m_19) fun (u9 : MS) => (kX12_isAt u9 59 59) ∧ (if (pX12_isAt u9 59 59) = true then (lt (msi u9 7 ((u9.1 7) + 1)) fun (m_12 : MS) => kX12_skips m_12) else (True)))) else ((kX12_isNumber m_19 v2_19) ∧ (bd (pX12_isNumber m_19 v2_19) fun (r17 : Bool) (u18 : MS) => if r17 = true then (lt (v2_19 + 1) fun (x20 : Int32) => Q_19 v1_19 x20 u18) else (True)))
noncomputable def kX12_isCommand_L19   : Nat → Int32 → Int32 → MS → Prop
  | 0 => fun _ _ _ => False
  | n + 1 => kbX12_isCommand_L19   (kX12_isCommand_L19   n)
noncomputable def pX12_isCommand (m : MS) : Bool × MS := bd (pX12_isWord m) fun (r2 : Bool) (u3 : MS) => if r2 = true then (lt (pX12_manyOf (u3.2.1 0)) fun (x5 : Int32) => pX12_isCommand_L19 fu x5 0 u3) else ((false, u3))
def kX12_isCommand (m : MS) : Prop := (kX12_isWord m) ∧ (bd (pX12_isWord m) fun (r2 : Bool) (u3 : MS) => if r2 = true then (lt (pX12_manyOf (u3.2.1 0)) fun (x5 : Int32) => kX12_isCommand_L19 fu x5 0 u3) else (True))
abbrev rX12_isCommand : Room := { frames := 4, cells := 0, slots := 0, locals := 86 }
set_option maxHeartbeats 4000000 in
set_option maxRecDepth 100000 in
theorem mX12_isCommand (l : Launch) (dC : Nat → ClassId) (dI : Nat → Nat → Nat) (cI cB cO cL : ClassId) (q : Nat → Nat) (m : MS) (hI : gD (fun _ => True) (mAd q)) (hok : kX12_isCommand m) : Met l yX12_isCommand wsX12_isCommand rX12_isCommand (gP (dC, dI) (tYS cI cB cO cL) (mw q cI m) [.ref (q 0)]) (gQz (dC, dI) (fun m9 => mw q cI m9) (wA (mw q cI m)) (pX12_isCommand m)) 0 0 (wA (mw q cI m)) := by
  refine gMet (cc := cX12_isCommand) (maxL := 3) (ret := some .boolean) [(0, .ref (q 0))] (by decide) rfl rfl rfl ?_
  intro p e s mi below meth c C0 hK hP ls hl
  obtain ⟨hx, hb, hr, hml, hown, hts, hlocks⟩ := id C0
  have hown : s.vm.findClass RX12 = some mi.cls := hown
  have hS : va_S (wA (mw q cI m)) s.heap s.heap [] := va_S.rf
  have hD : gD (wA (mw q cI m)) (mAd q) := gD_wA (ws := mw q cI m) hI
  have hP : va_P (dC, dI) vwCl (mw q cI m) s.heap := hP
  obtain ⟨F, hF⟩ : ∃ F, F = pX12_isCommand m := ⟨_, rfl⟩
  have hf := hF
  have hin12 : ∀ w ∈ u_ws RX12 TX12 23, w ∈ wsX12_isCommand := by decide +kernel
  have fl258 := hts (.fieldLink RX12 258 "ClickBenchModel" "word" "J") (by decide +kernel)
  have fl238 := hts (.fieldLink RX12 238 "ClickBenchModel" "spot" "I") (by decide +kernel)
  have J_19 : ∀ (n_19 : Nat) (v1_19 : Int32) (v2_19 : Int32) (m_19 : MS) (H : Heap) (locs : List Loc), va_P (dC, dI) vwCl (mw q cI m_19) H → va_S (wA (mw q cI m)) s.heap H locs → ∀ ls : Array Slot, lv_has ls 3 [(0, .ref (q 0)), (1, .int v1_19), (2, .int v2_19)] → F = pX12_isCommand_L19 n_19 v1_19 v2_19 m_19 → kX12_isCommand_L19 n_19 v1_19 v2_19 m_19 → W p l e rX12_isCommand s mi ([.ref (q 0)] : List Value).toArray below meth c H locs 0 0 (MQ below (gQz (dC, dI) (fun m9 => mw q cI m9) (wA (mw q cI m)) (pX12_isCommand m)) ([.ref (q 0)] : List Value).toArray s 0 0 (wA (mw q cI m))) (F0 mi 19 ls []) := by
    intro n_19
    induction n_19 with
    | zero =>
      intro v1_19 v2_19 m_19 H locs hP hS ls hl hf hok
      exact absurd hok (fun h => h)
    | succ n_19 ih_19 =>
      intro v1_19 v2_19 m_19 H locs hP hS ls hl hf hok
      have hf : F = bX12_isCommand_L19 (pX12_isCommand_L19 n_19) v1_19 v2_19 m_19 := hf
      have hok : kbX12_isCommand_L19 (kX12_isCommand_L19 n_19) v1_19 v2_19 m_19 := hok
      refine lv_iload_n hx hb dX12_isCommand_19 rfl (lv_at hl 2 rfl) ?_
      refine lv_iload_n hx hb dX12_isCommand_20 rfl (lv_at hl 1 rfl) ?_
      refine lv_icmp_ge (tgt := 40) hx hb dX12_isCommand_21 (by decide) (fun c6 => ?_) (fun c6 => ?_)
      · have hf := it_eq c6 hf
        have hok := it_ok c6 hok
        refine lv_aload_n hx hb dX12_isCommand_40 rfl (lv_at hl 0 rfl) ?_
        obtain ⟨h7, hok⟩ := hok
        refine gms_v (va_runV (As := []) (rest := []) ⟨hx, hb, hml, hown, hts⟩ (mX12_skips l dC dI cI cB cO cL q m_19 (gD_any hD) h7) (cwV 0 hts gX12_isCommand_X12_skips rfl rfl rfl (by decide +kernel) ⟨Nat.le_of_ble_eq_true rfl, Nat.le_of_ble_eq_true rfl⟩) ⟨gP_blind, va_recv hK hP (ci := 9) (q0 := 0) rfl rfl, gP_ok hP hK⟩ rfl rfl hl.1 rfl (lv_room (Nat.le_of_ble_eq_true rfl)) dX12_isCommand_41 ⟨Nat.zero_le _, Nat.zero_le _⟩) hP (gD_va hD rfl) hS (fun u9 H locs hw hP hS => ?_)
        have hP : va_P (dC, dI) vwCl (mw q cI u9) H := hP
        have hf := lt_eq hw hf
        have hok := lt_ok hw hok
        refine lv_aload_n hx hb dX12_isCommand_44 rfl (lv_at hl 0 rfl) ?_
        refine lv_bipush (v := 59) hx hb dX12_isCommand_45 (by decide) ?_
        refine lv_bipush (v := 59) hx hb dX12_isCommand_47 (by decide) ?_
        obtain ⟨h10, hok⟩ := hok
        refine gro_i (va_runV (As := [.int 59, .int 59]) (rest := []) ⟨hx, hb, hml, hown, hts⟩ (mX12_isAt l dC dI cI cB cO cL q u9 59 59  h10) (cwV 2 hts gX12_isCommand_X12_isAt rfl rfl rfl (by decide +kernel) ⟨Nat.le_of_ble_eq_true rfl, Nat.le_of_ble_eq_true rfl⟩) ⟨gP_blind, va_recv hK hP (ci := 9) (q0 := 0) rfl rfl, gP_ok hP hK⟩ rfl rfl hl.1 rfl (lv_room (Nat.le_of_ble_eq_true rfl)) dX12_isCommand_49 ⟨Nat.zero_le _, Nat.zero_le _⟩) ?_
        refine lv_if_ne (tgt := 57) hx hb dX12_isCommand_52 (by decide) (fun c11 => ?_) (fun c11 => ?_)
        · have c11 := bz_t c11
          have hf := it_eq c11 hf
          have hok := it_ok c11 hok
          refine lv_aload_n hx hb dX12_isCommand_57 rfl (lv_at hl 0 rfl) ?_
          refine lv_dup hx hb dX12_isCommand_58 rfl ?_
          refine va_get (D := (dC, dI)) (ci := 9) (v := .int (u9.1 7)) (C := RX12) (T := TX12) (N := 23) hx hb hts hin12 hown hK hP 0 rfl rfl 19 (by decide) fl238 (fun _ h9 => h9) rfl dX12_isCommand_59 ?_
          refine lv_iconst (v := 1) hx hb dX12_isCommand_62 (by decide) ?_
          refine lv_iadd hx hb dX12_isCommand_63 ?_
          refine va_put (D := (dC, dI)) (ci := 9) (v := .int ((u9.1 7) + 1)) (ty := .int) (C := RX12) (T := TX12) (N := 23) hx hb hts hin12 tyX12 tyX12_ok nmX12 hown hK hP (gD_va hD rfl) hS 0 rfl rfl 19 (by decide) fl238 (fun _ h9 => h9) rfl (by decide +kernel) rfl rfl (Nat.le_of_ble_eq_true rfl) dX12_isCommand_64 (fun H locs hP _ hS => ?_)
          obtain ⟨m_12, em_12⟩ : ∃ z9 : MS, z9 = msi u9 7 ((u9.1 7) + 1) := ⟨_, rfl⟩
          have hP : va_P (dC, dI) vwCl (mw q cI m_12) H := by rw [em_12]; exact hP
          have hf := lt_eq em_12 hf
          have hok := lt_ok em_12 hok
          refine lv_aload_n hx hb dX12_isCommand_67 rfl (lv_at hl 0 rfl) ?_
          have h13 : kX12_skips m_12 := hok
          refine gms_v (va_runV (As := []) (rest := []) ⟨hx, hb, hml, hown, hts⟩ (mX12_skips l dC dI cI cB cO cL q m_12 (gD_any hD) h13) (cwV 0 hts gX12_isCommand_X12_skips rfl rfl rfl (by decide +kernel) ⟨Nat.le_of_ble_eq_true rfl, Nat.le_of_ble_eq_true rfl⟩) ⟨gP_blind, va_recv hK hP (ci := 9) (q0 := 0) rfl rfl, gP_ok hP hK⟩ rfl rfl hl.1 rfl (lv_room (Nat.le_of_ble_eq_true rfl)) dX12_isCommand_68 ⟨Nat.zero_le _, Nat.zero_le _⟩) hP (gD_va hD rfl) hS (fun u15 H locs hw hP hS => ?_)
          have hP : va_P (dC, dI) vwCl (mw q cI u15) H := hP
          have hf := lt_eq hw hf
          refine lv_iconst (v := 1) hx hb dX12_isCommand_71 (by decide) ?_
          exact e_mz C0 (b := true) rfl (hf.symm.trans hF) hP hS dX12_isCommand_72
        · have c11 := bz_f c11
          have hf := ie_eq c11 hf
          refine lv_iconst (v := 0) hx hb dX12_isCommand_55 (by decide) ?_
          exact e_mz C0 (b := false) rfl (hf.symm.trans hF) hP hS dX12_isCommand_56
      · have hf := ie_eq c6 hf
        have hok := ie_ok c6 hok
        refine lv_aload_n hx hb dX12_isCommand_24 rfl (lv_at hl 0 rfl) ?_
        refine lv_iload_n hx hb dX12_isCommand_25 rfl (lv_at hl 2 rfl) ?_
        obtain ⟨h16, hok⟩ := hok
        refine gms_z (va_runV (As := [.int v2_19]) (rest := []) ⟨hx, hb, hml, hown, hts⟩ (mX12_isNumber l dC dI cI cB cO cL q m_19 v2_19 (gD_any hD) h16) (cwV 1 hts gX12_isCommand_X12_isNumber rfl rfl rfl (by decide +kernel) ⟨Nat.le_of_ble_eq_true rfl, Nat.le_of_ble_eq_true rfl⟩) ⟨gP_blind, va_recv hK hP (ci := 9) (q0 := 0) rfl rfl, gP_ok hP hK⟩ rfl rfl hl.1 rfl (lv_room (Nat.le_of_ble_eq_true rfl)) dX12_isCommand_26 ⟨Nat.zero_le _, Nat.zero_le _⟩) hP (gD_va hD rfl) hS (fun r17 u18 H locs hw hP hS => ?_)
        have hP : va_P (dC, dI) vwCl (mw q cI u18) H := hP
        have hf := bd_eq hw hf
        have hok := bd_ok hw hok
        refine lv_if_ne (tgt := 34) hx hb dX12_isCommand_29 (by decide) (fun c19 => ?_) (fun c19 => ?_)
        · have c19 := bz_t c19
          have hf := it_eq c19 hf
          have hok := it_ok c19 hok
          obtain ⟨x20, ex20⟩ : ∃ y : Int32, y = v2_19 + 1 := ⟨_, rfl⟩
          refine lv_iinc (v := x20) (lv' := [(2, .int x20), (0, .ref (q 0)), (1, .int v1_19)]) hx hb dX12_isCommand_34 hl (k := 2) rfl (by rw [ex20]; rfl) (by decide) rfl (fun ls hl => ?_)
          have hf := lt_eq ex20 hf
          have hok := lt_ok ex20 hok
          refine lv_goto (tgt := 19) hx hb dX12_isCommand_37 (by decide) ?_
          exact ih_19 v1_19 x20 u18 _ _ hP hS _ (lv_sub hl [1, 2, 0] rfl) hf hok
        · have c19 := bz_f c19
          have hf := ie_eq c19 hf
          refine lv_iconst (v := 0) hx hb dX12_isCommand_32 (by decide) ?_
          exact e_mz C0 (b := false) rfl (hf.symm.trans hF) hP hS dX12_isCommand_33
  refine lv_aload_n hx hb dX12_isCommand_0 rfl (lv_at hl 0 rfl) ?_
  obtain ⟨h1, hok⟩ := hok
  refine gms_z (va_runV (As := []) (rest := []) ⟨hx, hb, hml, hown, hts⟩ (mX12_isWord l dC dI cI cB cO cL q m (gD_any hD) h1) (cwV 0 hts gX12_isCommand_X12_isWord rfl rfl rfl (by decide +kernel) ⟨Nat.le_of_ble_eq_true rfl, Nat.le_of_ble_eq_true rfl⟩) ⟨gP_blind, va_recv hK hP (ci := 9) (q0 := 0) rfl rfl, gP_ok hP hK⟩ rfl rfl hl.1 rfl (lv_room (Nat.le_of_ble_eq_true rfl)) dX12_isCommand_1 ⟨Nat.zero_le _, Nat.zero_le _⟩) hP (gD_va hD rfl) hS (fun r2 u3 H locs hw hP hS => ?_)
  have hP : va_P (dC, dI) vwCl (mw q cI u3) H := hP
  have hf := bd_eq hw hf
  have hok := bd_ok hw hok
  refine lv_if_ne (tgt := 9) hx hb dX12_isCommand_4 (by decide) (fun c4 => ?_) (fun c4 => ?_)
  · have c4 := bz_t c4
    have hf := it_eq c4 hf
    have hok := it_ok c4 hok
    refine lv_aload_n hx hb dX12_isCommand_9 rfl (lv_at hl 0 rfl) ?_
    refine va_get (D := (dC, dI)) (ci := 9) (v := .long (u3.2.1 0)) (C := RX12) (T := TX12) (N := 23) hx hb hts hin12 hown hK hP 0 rfl rfl 20 (by decide) fl258 (fun _ h9 => h9) rfl dX12_isCommand_10 ?_
    refine gro_i (va_runS (As := [.long (u3.2.1 0)]) (rest := []) ⟨hx, hb, hml, hown, hts⟩ (mX12_manyOf l dC dI cI cB cO cL  (u3.2.1 0)  ) (va_cwS 1 hts gX12_isCommand_X12_manyOf rfl rfl rfl (by decide +kernel) ⟨Nat.le_of_ble_eq_true rfl, Nat.le_of_ble_eq_true rfl⟩) ⟨gP_blind, gP_ok va_P_nil hK⟩ rfl rfl hl.1 rfl (lv_room (Nat.le_of_ble_eq_true rfl)) dX12_isCommand_13 ⟨Nat.zero_le _, Nat.zero_le _⟩) ?_
    refine lv_topi (fun x5 ex5 => ?_)
    have hf := lt_eq ex5 hf
    have hok := lt_ok ex5 hok
    refine lv_istore_n (lv' := [(1, .int x5), (0, .ref (q 0))]) hx hb dX12_isCommand_16 rfl hl (by decide) rfl (fun ls hl => ?_)
    refine lv_iconst (v := 0) hx hb dX12_isCommand_17 (by decide) ?_
    refine lv_istore_n (lv' := [(2, .int 0), (1, .int x5), (0, .ref (q 0))]) hx hb dX12_isCommand_18 rfl hl (by decide) rfl (fun ls hl => ?_)
    exact J_19 fu x5 0 u3 _ _ hP hS _ (lv_sub hl [2, 1, 0] rfl) hf hok
  · have c4 := bz_f c4
    have hf := ie_eq c4 hf
    refine lv_iconst (v := 0) hx hb dX12_isCommand_7 (by decide) ?_
    exact e_mz C0 (b := false) rfl (hf.symm.trans hF) hP hS dX12_isCommand_8
noncomputable def bX12_faultAt_L9   (q_9 : MS → (Int32 × MS)) (m_9 : MS) : Int32 × MS := if (m_9.1 1) ≤ (m_9.1 7) then (((-1000000000), m_9)) else (bd (pX12_isCommand m_9) fun (r7 : Bool) (u8 : MS) => if r7 = true then (q_9 u8) else ((u8.1 7, u8)))
noncomputable def pX12_faultAt_L9   : Nat → MS → (Int32 × MS)
  | 0 => fun m_9 => (0, m_9)
  | n + 1 => bX12_faultAt_L9   (pX12_faultAt_L9   n)
def kbX12_faultAt_L9   (Q_9 : MS → Prop) (m_9 : MS) : Prop := if (m_9.1 1) ≤ (m_9.1 7) then (True) else ((kX12_isCommand m_9) ∧ (bd (pX12_isCommand m_9) fun (r7 : Bool) (u8 : MS) => if r7 = true then (Q_9 u8) else (True)))
noncomputable def kX12_faultAt_L9   : Nat → MS → Prop
  | 0 => fun _ => False
  | n + 1 => kbX12_faultAt_L9   (kX12_faultAt_L9   n)
noncomputable def pX12_faultAt (m : MS) : Int32 × MS := lt (msi m 7 0) fun (m_1 : MS) => lt (pX12_skips m_1) fun (u4 : MS) => pX12_faultAt_L9 fu u4
def kX12_faultAt (m : MS) : Prop := lt (msi m 7 0) fun (m_1 : MS) => (kX12_skips m_1) ∧ (lt (pX12_skips m_1) fun (u4 : MS) => kX12_faultAt_L9 fu u4)
abbrev rX12_faultAt : Room := { frames := 5, cells := 0, slots := 0, locals := 108 }
set_option maxHeartbeats 4000000 in
set_option maxRecDepth 100000 in
theorem mX12_faultAt (l : Launch) (dC : Nat → ClassId) (dI : Nat → Nat → Nat) (cI cB cO cL : ClassId) (q : Nat → Nat) (m : MS) (hI : gD (fun _ => True) (mAd q)) (hok : kX12_faultAt m) : Met l yX12_faultAt wsX12_faultAt rX12_faultAt (gP (dC, dI) (tYS cI cB cO cL) (mw q cI m) [.ref (q 0)]) (gQi (dC, dI) (fun m9 => mw q cI m9) (wA (mw q cI m)) (pX12_faultAt m)) 0 0 (wA (mw q cI m)) := by
  refine gMet (cc := cX12_faultAt) (maxL := 1) (ret := some .int) [(0, .ref (q 0))] (by decide) rfl rfl rfl ?_
  intro p e s mi below meth c C0 hK hP ls hl
  obtain ⟨hx, hb, hr, hml, hown, hts, hlocks⟩ := id C0
  have hown : s.vm.findClass RX12 = some mi.cls := hown
  have hS : va_S (wA (mw q cI m)) s.heap s.heap [] := va_S.rf
  have hD : gD (wA (mw q cI m)) (mAd q) := gD_wA (ws := mw q cI m) hI
  have hP : va_P (dC, dI) vwCl (mw q cI m) s.heap := hP
  obtain ⟨F, hF⟩ : ∃ F, F = pX12_faultAt m := ⟨_, rfl⟩
  have hf := hF
  have hin12 : ∀ w ∈ u_ws RX12 TX12 23, w ∈ wsX12_faultAt := by decide +kernel
  have fl238 := hts (.fieldLink RX12 238 "ClickBenchModel" "spot" "I") (by decide +kernel)
  have fl235 := hts (.fieldLink RX12 235 "ClickBenchModel" "typed" "I") (by decide +kernel)
  have cn71 := hts (.constant RX12 71 (-1000000000)) (by decide +kernel)
  have J_9 : ∀ (n_9 : Nat) (m_9 : MS) (H : Heap) (locs : List Loc), va_P (dC, dI) vwCl (mw q cI m_9) H → va_S (wA (mw q cI m)) s.heap H locs → ∀ ls : Array Slot, lv_has ls 1 [(0, .ref (q 0))] → F = pX12_faultAt_L9 n_9 m_9 → kX12_faultAt_L9 n_9 m_9 → W p l e rX12_faultAt s mi ([.ref (q 0)] : List Value).toArray below meth c H locs 0 0 (MQ below (gQi (dC, dI) (fun m9 => mw q cI m9) (wA (mw q cI m)) (pX12_faultAt m)) ([.ref (q 0)] : List Value).toArray s 0 0 (wA (mw q cI m))) (F0 mi 9 ls []) := by
    intro n_9
    induction n_9 with
    | zero =>
      intro m_9 H locs hP hS ls hl hf hok
      exact absurd hok (fun h => h)
    | succ n_9 ih_9 =>
      intro m_9 H locs hP hS ls hl hf hok
      have hf : F = bX12_faultAt_L9 (pX12_faultAt_L9 n_9) m_9 := hf
      have hok : kbX12_faultAt_L9 (kX12_faultAt_L9 n_9) m_9 := hok
      refine lv_aload_n hx hb dX12_faultAt_9 rfl (lv_at hl 0 rfl) ?_
      refine va_get (D := (dC, dI)) (ci := 9) (v := .int (m_9.1 7)) (C := RX12) (T := TX12) (N := 23) hx hb hts hin12 hown hK hP 0 rfl rfl 19 (by decide) fl238 (fun _ h9 => h9) rfl dX12_faultAt_10 ?_
      refine lv_aload_n hx hb dX12_faultAt_13 rfl (lv_at hl 0 rfl) ?_
      refine va_get (D := (dC, dI)) (ci := 9) (v := .int (m_9.1 1)) (C := RX12) (T := TX12) (N := 23) hx hb hts hin12 hown hK hP 0 rfl rfl 5 (by decide) fl235 (fun _ h9 => h9) rfl dX12_faultAt_14 ?_
      refine lv_icmp_ge (tgt := 32) hx hb dX12_faultAt_17 (by decide) (fun c5 => ?_) (fun c5 => ?_)
      · have hf := it_eq c5 hf
        refine lv_ldc (v := (-1000000000)) hx hb hown cn71 dX12_faultAt_32 ?_
        exact e_mi C0 (hf.symm.trans hF) hP hS dX12_faultAt_34
      · have hf := ie_eq c5 hf
        have hok := ie_ok c5 hok
        refine lv_aload_n hx hb dX12_faultAt_20 rfl (lv_at hl 0 rfl) ?_
        obtain ⟨h6, hok⟩ := hok
        refine gms_z (va_runV (As := []) (rest := []) ⟨hx, hb, hml, hown, hts⟩ (mX12_isCommand l dC dI cI cB cO cL q m_9 (gD_any hD) h6) (cwV 0 hts gX12_faultAt_X12_isCommand rfl rfl rfl (by decide +kernel) ⟨Nat.le_of_ble_eq_true rfl, Nat.le_of_ble_eq_true rfl⟩) ⟨gP_blind, va_recv hK hP (ci := 9) (q0 := 0) rfl rfl, gP_ok hP hK⟩ rfl rfl hl.1 rfl (lv_room (Nat.le_of_ble_eq_true rfl)) dX12_faultAt_21 ⟨Nat.zero_le _, Nat.zero_le _⟩) hP (gD_va hD rfl) hS (fun r7 u8 H locs hw hP hS => ?_)
        have hP : va_P (dC, dI) vwCl (mw q cI u8) H := hP
        have hf := bd_eq hw hf
        have hok := bd_ok hw hok
        refine lv_if_ne (tgt := 9) hx hb dX12_faultAt_24 (by decide) (fun c9 => ?_) (fun c9 => ?_)
        · have c9 := bz_t c9
          have hf := it_eq c9 hf
          have hok := it_ok c9 hok
          exact ih_9 u8 _ _ hP hS _ (lv_sub hl [0] rfl) hf hok
        · have c9 := bz_f c9
          have hf := ie_eq c9 hf
          refine lv_aload_n hx hb dX12_faultAt_27 rfl (lv_at hl 0 rfl) ?_
          refine va_get (D := (dC, dI)) (ci := 9) (v := .int (u8.1 7)) (C := RX12) (T := TX12) (N := 23) hx hb hts hin12 hown hK hP 0 rfl rfl 19 (by decide) fl238 (fun _ h9 => h9) rfl dX12_faultAt_28 ?_
          exact e_mi C0 (hf.symm.trans hF) hP hS dX12_faultAt_31
  refine lv_aload_n hx hb dX12_faultAt_0 rfl (lv_at hl 0 rfl) ?_
  refine lv_iconst (v := 0) hx hb dX12_faultAt_1 (by decide) ?_
  refine va_put (D := (dC, dI)) (ci := 9) (v := .int 0) (ty := .int) (C := RX12) (T := TX12) (N := 23) hx hb hts hin12 tyX12 tyX12_ok nmX12 hown hK hP (gD_va hD rfl) hS 0 rfl rfl 19 (by decide) fl238 (fun _ h9 => h9) rfl (by decide +kernel) rfl rfl (Nat.le_of_ble_eq_true rfl) dX12_faultAt_2 (fun H locs hP _ hS => ?_)
  obtain ⟨m_1, em_1⟩ : ∃ z9 : MS, z9 = msi m 7 0 := ⟨_, rfl⟩
  have hP : va_P (dC, dI) vwCl (mw q cI m_1) H := by rw [em_1]; exact hP
  have hf := lt_eq em_1 hf
  have hok := lt_ok em_1 hok
  refine lv_aload_n hx hb dX12_faultAt_5 rfl (lv_at hl 0 rfl) ?_
  obtain ⟨h2, hok⟩ := hok
  refine gms_v (va_runV (As := []) (rest := []) ⟨hx, hb, hml, hown, hts⟩ (mX12_skips l dC dI cI cB cO cL q m_1 (gD_any hD) h2) (cwV 0 hts gX12_faultAt_X12_skips rfl rfl rfl (by decide +kernel) ⟨Nat.le_of_ble_eq_true rfl, Nat.le_of_ble_eq_true rfl⟩) ⟨gP_blind, va_recv hK hP (ci := 9) (q0 := 0) rfl rfl, gP_ok hP hK⟩ rfl rfl hl.1 rfl (lv_room (Nat.le_of_ble_eq_true rfl)) dX12_faultAt_6 ⟨Nat.zero_le _, Nat.zero_le _⟩) hP (gD_va hD rfl) hS (fun u4 H locs hw hP hS => ?_)
  have hP : va_P (dC, dI) vwCl (mw q cI u4) H := hP
  have hf := lt_eq hw hf
  have hok := lt_ok hw hok
  exact J_9 fu u4 _ _ hP hS _ (lv_sub hl [0] rfl) hf hok
noncomputable def pX12_does (m : MS) : Int32 × MS := lt ((m.2.2 12) 0) fun (x1 : Int32) => lt ((m.2.2 12) 1) fun (x2 : Int32) => lt ((m.2.2 12) 2) fun (x3 : Int32) => if (m.2.1 0) = 439854918756 then (bd (pX12_begins m x1 x2) fun (r29 : Int32) (u30 : MS) => (r29, u30)) else (if (m.2.1 0) = 7170403 then (bd (pX12_comes m x1 x2) fun (r26 : Int32) (u27 : MS) => (r26, u27)) else (if (m.2.1 0) = 2002873452 then (bd (pX12_walls m x1 x2 x3) fun (r23 : Int32) (u24 : MS) => (r23, u24)) else (if (m.2.1 0) = 126870958204270 then (bd (pX12_screens m x1 x2 x3 ((m.2.2 12) 3)) fun (r20 : Int32) (u21 : MS) => (r20, u21)) else (if (m.2.1 0) = 7562612 then (bd (pX12_sets m x1 x2) fun (r17 : Int32) (u18 : MS) => (r17, u18)) else (if (m.2.1 0) = 427020608363 then (bd (pX12_clicks m x1 x2 x3) fun (r14 : Int32) (u15 : MS) => (r14, u15)) else (bd (pX12_calibrates m x1 x2 x3) fun (r11 : Int32) (u12 : MS) => (r11, u12)))))))
def kX12_does (m : MS) : Prop := lt ((m.2.2 12) 0) fun (x1 : Int32) => lt ((m.2.2 12) 1) fun (x2 : Int32) => lt ((m.2.2 12) 2) fun (x3 : Int32) => if (m.2.1 0) = 439854918756 then (kX12_begins m x1 x2) else (if (m.2.1 0) = 7170403 then (kX12_comes m x1 x2) else (if (m.2.1 0) = 2002873452 then (kX12_walls m x1 x2 x3) else (if (m.2.1 0) = 126870958204270 then (kX12_screens m x1 x2 x3 ((m.2.2 12) 3)) else (if (m.2.1 0) = 7562612 then (kX12_sets m x1 x2) else (if (m.2.1 0) = 427020608363 then (kX12_clicks m x1 x2 x3) else (kX12_calibrates m x1 x2 x3))))))
abbrev rX12_does : Room := { frames := 6, cells := 0, slots := 0, locals := 161 }
set_option maxHeartbeats 4000000 in
set_option maxRecDepth 100000 in
theorem mX12_does (l : Launch) (dC : Nat → ClassId) (dI : Nat → Nat → Nat) (cI cB cO cL : ClassId) (q : Nat → Nat) (m : MS) (hI : gD (fun _ => True) (mAd q)) (hok : kX12_does m) : Met l yX12_does wsX12_does rX12_does (gP (dC, dI) (tYS cI cB cO cL) (mw q cI m) [.ref (q 0)]) (gQi (dC, dI) (fun m9 => mw q cI m9) (wA (mw q cI m)) (pX12_does m)) 0 0 (wA (mw q cI m)) := by
  refine gMet (cc := cX12_does) (maxL := 4) (ret := some .int) [(0, .ref (q 0))] (by decide) rfl rfl rfl ?_
  intro p e s mi below meth c C0 hK hP ls hl
  obtain ⟨hx, hb, hr, hml, hown, hts, hlocks⟩ := id C0
  have hown : s.vm.findClass RX12 = some mi.cls := hown
  have hS : va_S (wA (mw q cI m)) s.heap s.heap [] := va_S.rf
  have hD : gD (wA (mw q cI m)) (mAd q) := gD_wA (ws := mw q cI m) hI
  have hP : va_P (dC, dI) vwCl (mw q cI m) s.heap := hP
  obtain ⟨F, hF⟩ : ∃ F, F = pX12_does m := ⟨_, rfl⟩
  have hf := hF
  have hin12 : ∀ w ∈ u_ws RX12 TX12 23, w ∈ wsX12_does := by decide +kernel
  have fl46 := hts (.fieldLink RX12 46 "ClickBenchModel" "numbers" "[I") (by decide +kernel)
  have fl258 := hts (.fieldLink RX12 258 "ClickBenchModel" "word" "J") (by decide +kernel)
  have cn244 := hts (.constantLong RX12 244 (439854918756)) (by decide +kernel)
  have cn246 := hts (.constantLong RX12 246 (7170403)) (by decide +kernel)
  have cn250 := hts (.constantLong RX12 250 (2002873452)) (by decide +kernel)
  have cn256 := hts (.constantLong RX12 256 (126870958204270)) (by decide +kernel)
  have cn248 := hts (.constantLong RX12 248 (7562612)) (by decide +kernel)
  have cn252 := hts (.constantLong RX12 252 (427020608363)) (by decide +kernel)
  refine lv_aload_n hx hb dX12_does_0 rfl (lv_at hl 0 rfl) ?_
  refine va_get (D := (dC, dI)) (ci := 9) (v := .ref (q 13)) (C := RX12) (T := TX12) (N := 23) hx hb hts hin12 hown hK hP 0 rfl rfl 21 (by decide) fl46 (fun _ h9 => h9) rfl dX12_does_1 ?_
  refine lv_iconst (v := 0) hx hb dX12_does_4 (by decide) ?_
  refine g_ialdK (D := (dC, dI)) (tys := (tYS cI cB cO cL)) (k := 0) hx hb hK hP 13 0 rfl rfl (by decide) (by decide) (by decide) dX12_does_5 ?_
  refine lv_topi (fun x1 ex1 => ?_)
  have hf := lt_eq ex1 hf
  have hok := lt_ok ex1 hok
  refine lv_istore_n (lv' := [(1, .int x1), (0, .ref (q 0))]) hx hb dX12_does_6 rfl hl (by decide) rfl (fun ls hl => ?_)
  refine lv_aload_n hx hb dX12_does_7 rfl (lv_at hl 1 rfl) ?_
  refine va_get (D := (dC, dI)) (ci := 9) (v := .ref (q 13)) (C := RX12) (T := TX12) (N := 23) hx hb hts hin12 hown hK hP 0 rfl rfl 21 (by decide) fl46 (fun _ h9 => h9) rfl dX12_does_8 ?_
  refine lv_iconst (v := 1) hx hb dX12_does_11 (by decide) ?_
  refine g_ialdK (D := (dC, dI)) (tys := (tYS cI cB cO cL)) (k := 1) hx hb hK hP 13 0 rfl rfl (by decide) (by decide) (by decide) dX12_does_12 ?_
  refine lv_topi (fun x2 ex2 => ?_)
  have hf := lt_eq ex2 hf
  have hok := lt_ok ex2 hok
  refine lv_istore_n (lv' := [(2, .int x2), (1, .int x1), (0, .ref (q 0))]) hx hb dX12_does_13 rfl hl (by decide) rfl (fun ls hl => ?_)
  refine lv_aload_n hx hb dX12_does_14 rfl (lv_at hl 2 rfl) ?_
  refine va_get (D := (dC, dI)) (ci := 9) (v := .ref (q 13)) (C := RX12) (T := TX12) (N := 23) hx hb hts hin12 hown hK hP 0 rfl rfl 21 (by decide) fl46 (fun _ h9 => h9) rfl dX12_does_15 ?_
  refine lv_iconst (v := 2) hx hb dX12_does_18 (by decide) ?_
  refine g_ialdK (D := (dC, dI)) (tys := (tYS cI cB cO cL)) (k := 2) hx hb hK hP 13 0 rfl rfl (by decide) (by decide) (by decide) dX12_does_19 ?_
  refine lv_topi (fun x3 ex3 => ?_)
  have hf := lt_eq ex3 hf
  have hok := lt_ok ex3 hok
  refine lv_istore_n (lv' := [(3, .int x3), (2, .int x2), (1, .int x1), (0, .ref (q 0))]) hx hb dX12_does_20 rfl hl (by decide) rfl (fun ls hl => ?_)
  refine lv_aload_n hx hb dX12_does_21 rfl (lv_at hl 3 rfl) ?_
  refine va_get (D := (dC, dI)) (ci := 9) (v := .long (m.2.1 0)) (C := RX12) (T := TX12) (N := 23) hx hb hts hin12 hown hK hP 0 rfl rfl 20 (by decide) fl258 (fun _ h9 => h9) rfl dX12_does_22 ?_
  refine lv_ldc2 (v := 439854918756) hx hb hown cn244 dX12_does_25 ?_
  refine W.lcmp hx hb dX12_does_28 ?_
  refine lv_if_ne (tgt := 39) hx hb dX12_does_29 (by decide) (fun c4 => ?_) (fun c4 => ?_)
  · have c4 := fun h => c4 ((lg_cmp_eq _ _).mpr h)
    have hf := ie_eq c4 hf
    have hok := ie_ok c4 hok
    refine lv_aload_n hx hb dX12_does_39 rfl (lv_at hl 3 rfl) ?_
    refine va_get (D := (dC, dI)) (ci := 9) (v := .long (m.2.1 0)) (C := RX12) (T := TX12) (N := 23) hx hb hts hin12 hown hK hP 0 rfl rfl 20 (by decide) fl258 (fun _ h9 => h9) rfl dX12_does_40 ?_
    refine lv_ldc2 (v := 7170403) hx hb hown cn246 dX12_does_43 ?_
    refine W.lcmp hx hb dX12_does_46 ?_
    refine lv_if_ne (tgt := 57) hx hb dX12_does_47 (by decide) (fun c5 => ?_) (fun c5 => ?_)
    · have c5 := fun h => c5 ((lg_cmp_eq _ _).mpr h)
      have hf := ie_eq c5 hf
      have hok := ie_ok c5 hok
      refine lv_aload_n hx hb dX12_does_57 rfl (lv_at hl 3 rfl) ?_
      refine va_get (D := (dC, dI)) (ci := 9) (v := .long (m.2.1 0)) (C := RX12) (T := TX12) (N := 23) hx hb hts hin12 hown hK hP 0 rfl rfl 20 (by decide) fl258 (fun _ h9 => h9) rfl dX12_does_58 ?_
      refine lv_ldc2 (v := 2002873452) hx hb hown cn250 dX12_does_61 ?_
      refine W.lcmp hx hb dX12_does_64 ?_
      refine lv_if_ne (tgt := 76) hx hb dX12_does_65 (by decide) (fun c6 => ?_) (fun c6 => ?_)
      · have c6 := fun h => c6 ((lg_cmp_eq _ _).mpr h)
        have hf := ie_eq c6 hf
        have hok := ie_ok c6 hok
        refine lv_aload_n hx hb dX12_does_76 rfl (lv_at hl 3 rfl) ?_
        refine va_get (D := (dC, dI)) (ci := 9) (v := .long (m.2.1 0)) (C := RX12) (T := TX12) (N := 23) hx hb hts hin12 hown hK hP 0 rfl rfl 20 (by decide) fl258 (fun _ h9 => h9) rfl dX12_does_77 ?_
        refine lv_ldc2 (v := 126870958204270) hx hb hown cn256 dX12_does_80 ?_
        refine W.lcmp hx hb dX12_does_83 ?_
        refine lv_if_ne (tgt := 101) hx hb dX12_does_84 (by decide) (fun c7 => ?_) (fun c7 => ?_)
        · have c7 := fun h => c7 ((lg_cmp_eq _ _).mpr h)
          have hf := ie_eq c7 hf
          have hok := ie_ok c7 hok
          refine lv_aload_n hx hb dX12_does_101 rfl (lv_at hl 3 rfl) ?_
          refine va_get (D := (dC, dI)) (ci := 9) (v := .long (m.2.1 0)) (C := RX12) (T := TX12) (N := 23) hx hb hts hin12 hown hK hP 0 rfl rfl 20 (by decide) fl258 (fun _ h9 => h9) rfl dX12_does_102 ?_
          refine lv_ldc2 (v := 7562612) hx hb hown cn248 dX12_does_105 ?_
          refine W.lcmp hx hb dX12_does_108 ?_
          refine lv_if_ne (tgt := 119) hx hb dX12_does_109 (by decide) (fun c8 => ?_) (fun c8 => ?_)
          · have c8 := fun h => c8 ((lg_cmp_eq _ _).mpr h)
            have hf := ie_eq c8 hf
            have hok := ie_ok c8 hok
            refine lv_aload_n hx hb dX12_does_119 rfl (lv_at hl 3 rfl) ?_
            refine va_get (D := (dC, dI)) (ci := 9) (v := .long (m.2.1 0)) (C := RX12) (T := TX12) (N := 23) hx hb hts hin12 hown hK hP 0 rfl rfl 20 (by decide) fl258 (fun _ h9 => h9) rfl dX12_does_120 ?_
            refine lv_ldc2 (v := 427020608363) hx hb hown cn252 dX12_does_123 ?_
            refine W.lcmp hx hb dX12_does_126 ?_
            refine lv_if_ne (tgt := 140) hx hb dX12_does_127 (by decide) (fun c9 => ?_) (fun c9 => ?_)
            · have c9 := fun h => c9 ((lg_cmp_eq _ _).mpr h)
              have hf := ie_eq c9 hf
              have hok := ie_ok c9 hok
              refine lv_aload_n hx hb dX12_does_140 rfl (lv_at hl 3 rfl) ?_
              refine lv_iload_n hx hb dX12_does_141 rfl (lv_at hl 2 rfl) ?_
              refine lv_iload_n hx hb dX12_does_142 rfl (lv_at hl 1 rfl) ?_
              refine lv_iload_n hx hb dX12_does_143 rfl (lv_at hl 0 rfl) ?_
              have h10 : kX12_calibrates m x1 x2 x3 := hok
              refine gms_i (va_runV (As := [.int x1, .int x2, .int x3]) (rest := []) ⟨hx, hb, hml, hown, hts⟩ (mX12_calibrates l dC dI cI cB cO cL q m x1 x2 x3 (gD_any hD) h10) (cwV 3 hts gX12_does_X12_calibrates rfl rfl rfl (by decide +kernel) ⟨Nat.le_of_ble_eq_true rfl, Nat.le_of_ble_eq_true rfl⟩) ⟨gP_blind, va_recv hK hP (ci := 9) (q0 := 0) rfl rfl, gP_ok hP hK⟩ rfl rfl hl.1 rfl (lv_room (Nat.le_of_ble_eq_true rfl)) dX12_does_144 ⟨Nat.zero_le _, Nat.zero_le _⟩) hP (gD_va hD rfl) hS (fun r11 u12 H locs hw hP hS => ?_)
              have hP : va_P (dC, dI) vwCl (mw q cI u12) H := hP
              have hf := bd_eq hw hf
              exact e_mi C0 (hf.symm.trans hF) hP hS dX12_does_147
            · have c9 := (lg_cmp_eq _ _).mp c9
              have hf := it_eq c9 hf
              have hok := it_ok c9 hok
              refine lv_aload_n hx hb dX12_does_130 rfl (lv_at hl 3 rfl) ?_
              refine lv_iload_n hx hb dX12_does_131 rfl (lv_at hl 2 rfl) ?_
              refine lv_iload_n hx hb dX12_does_132 rfl (lv_at hl 1 rfl) ?_
              refine lv_iload_n hx hb dX12_does_133 rfl (lv_at hl 0 rfl) ?_
              have h13 : kX12_clicks m x1 x2 x3 := hok
              refine gms_i (va_runV (As := [.int x1, .int x2, .int x3]) (rest := []) ⟨hx, hb, hml, hown, hts⟩ (mX12_clicks l dC dI cI cB cO cL q m x1 x2 x3 (gD_any hD) h13) (cwV 3 hts gX12_does_X12_clicks rfl rfl rfl (by decide +kernel) ⟨Nat.le_of_ble_eq_true rfl, Nat.le_of_ble_eq_true rfl⟩) ⟨gP_blind, va_recv hK hP (ci := 9) (q0 := 0) rfl rfl, gP_ok hP hK⟩ rfl rfl hl.1 rfl (lv_room (Nat.le_of_ble_eq_true rfl)) dX12_does_134 ⟨Nat.zero_le _, Nat.zero_le _⟩) hP (gD_va hD rfl) hS (fun r14 u15 H locs hw hP hS => ?_)
              have hP : va_P (dC, dI) vwCl (mw q cI u15) H := hP
              have hf := bd_eq hw hf
              refine lv_goto (tgt := 147) hx hb dX12_does_137 (by decide) ?_
              exact e_mi C0 (hf.symm.trans hF) hP hS dX12_does_147
          · have c8 := (lg_cmp_eq _ _).mp c8
            have hf := it_eq c8 hf
            have hok := it_ok c8 hok
            refine lv_aload_n hx hb dX12_does_112 rfl (lv_at hl 3 rfl) ?_
            refine lv_iload_n hx hb dX12_does_113 rfl (lv_at hl 2 rfl) ?_
            refine lv_iload_n hx hb dX12_does_114 rfl (lv_at hl 1 rfl) ?_
            have h16 : kX12_sets m x1 x2 := hok
            refine gms_i (va_runV (As := [.int x1, .int x2]) (rest := []) ⟨hx, hb, hml, hown, hts⟩ (mX12_sets l dC dI cI cB cO cL q m x1 x2 (gD_any hD) h16) (cwV 2 hts gX12_does_X12_sets rfl rfl rfl (by decide +kernel) ⟨Nat.le_of_ble_eq_true rfl, Nat.le_of_ble_eq_true rfl⟩) ⟨gP_blind, va_recv hK hP (ci := 9) (q0 := 0) rfl rfl, gP_ok hP hK⟩ rfl rfl hl.1 rfl (lv_room (Nat.le_of_ble_eq_true rfl)) dX12_does_115 ⟨Nat.zero_le _, Nat.zero_le _⟩) hP (gD_va hD rfl) hS (fun r17 u18 H locs hw hP hS => ?_)
            have hP : va_P (dC, dI) vwCl (mw q cI u18) H := hP
            have hf := bd_eq hw hf
            exact e_mi C0 (hf.symm.trans hF) hP hS dX12_does_118
        · have c7 := (lg_cmp_eq _ _).mp c7
          have hf := it_eq c7 hf
          have hok := it_ok c7 hok
          refine lv_aload_n hx hb dX12_does_87 rfl (lv_at hl 3 rfl) ?_
          refine lv_iload_n hx hb dX12_does_88 rfl (lv_at hl 2 rfl) ?_
          refine lv_iload_n hx hb dX12_does_89 rfl (lv_at hl 1 rfl) ?_
          refine lv_iload_n hx hb dX12_does_90 rfl (lv_at hl 0 rfl) ?_
          refine lv_aload_n hx hb dX12_does_91 rfl (lv_at hl 3 rfl) ?_
          refine va_get (D := (dC, dI)) (ci := 9) (v := .ref (q 13)) (C := RX12) (T := TX12) (N := 23) hx hb hts hin12 hown hK hP 0 rfl rfl 21 (by decide) fl46 (fun _ h9 => h9) rfl dX12_does_92 ?_
          refine lv_iconst (v := 3) hx hb dX12_does_95 (by decide) ?_
          refine g_ialdK (D := (dC, dI)) (tys := (tYS cI cB cO cL)) (k := 3) hx hb hK hP 13 0 rfl rfl (by decide) (by decide) (by decide) dX12_does_96 ?_
          have h19 : kX12_screens m x1 x2 x3 ((m.2.2 12) 3) := hok
          refine gms_i (va_runV (As := [.int x1, .int x2, .int x3, .int ((m.2.2 12) 3)]) (rest := []) ⟨hx, hb, hml, hown, hts⟩ (mX12_screens l dC dI cI cB cO cL q m x1 x2 x3 ((m.2.2 12) 3) (gD_any hD) h19) (cwV 4 hts gX12_does_X12_screens rfl rfl rfl (by decide +kernel) ⟨Nat.le_of_ble_eq_true rfl, Nat.le_of_ble_eq_true rfl⟩) ⟨gP_blind, va_recv hK hP (ci := 9) (q0 := 0) rfl rfl, gP_ok hP hK⟩ rfl rfl hl.1 rfl (lv_room (Nat.le_of_ble_eq_true rfl)) dX12_does_97 ⟨Nat.zero_le _, Nat.zero_le _⟩) hP (gD_va hD rfl) hS (fun r20 u21 H locs hw hP hS => ?_)
          have hP : va_P (dC, dI) vwCl (mw q cI u21) H := hP
          have hf := bd_eq hw hf
          exact e_mi C0 (hf.symm.trans hF) hP hS dX12_does_100
      · have c6 := (lg_cmp_eq _ _).mp c6
        have hf := it_eq c6 hf
        have hok := it_ok c6 hok
        refine lv_aload_n hx hb dX12_does_68 rfl (lv_at hl 3 rfl) ?_
        refine lv_iload_n hx hb dX12_does_69 rfl (lv_at hl 2 rfl) ?_
        refine lv_iload_n hx hb dX12_does_70 rfl (lv_at hl 1 rfl) ?_
        refine lv_iload_n hx hb dX12_does_71 rfl (lv_at hl 0 rfl) ?_
        have h22 : kX12_walls m x1 x2 x3 := hok
        refine gms_i (va_runV (As := [.int x1, .int x2, .int x3]) (rest := []) ⟨hx, hb, hml, hown, hts⟩ (mX12_walls l dC dI cI cB cO cL q m x1 x2 x3 (gD_any hD) h22) (cwV 3 hts gX12_does_X12_walls rfl rfl rfl (by decide +kernel) ⟨Nat.le_of_ble_eq_true rfl, Nat.le_of_ble_eq_true rfl⟩) ⟨gP_blind, va_recv hK hP (ci := 9) (q0 := 0) rfl rfl, gP_ok hP hK⟩ rfl rfl hl.1 rfl (lv_room (Nat.le_of_ble_eq_true rfl)) dX12_does_72 ⟨Nat.zero_le _, Nat.zero_le _⟩) hP (gD_va hD rfl) hS (fun r23 u24 H locs hw hP hS => ?_)
        have hP : va_P (dC, dI) vwCl (mw q cI u24) H := hP
        have hf := bd_eq hw hf
        exact e_mi C0 (hf.symm.trans hF) hP hS dX12_does_75
    · have c5 := (lg_cmp_eq _ _).mp c5
      have hf := it_eq c5 hf
      have hok := it_ok c5 hok
      refine lv_aload_n hx hb dX12_does_50 rfl (lv_at hl 3 rfl) ?_
      refine lv_iload_n hx hb dX12_does_51 rfl (lv_at hl 2 rfl) ?_
      refine lv_iload_n hx hb dX12_does_52 rfl (lv_at hl 1 rfl) ?_
      have h25 : kX12_comes m x1 x2 := hok
      refine gms_i (va_runV (As := [.int x1, .int x2]) (rest := []) ⟨hx, hb, hml, hown, hts⟩ (mX12_comes l dC dI cI cB cO cL q m x1 x2 (gD_any hD) h25) (cwV 2 hts gX12_does_X12_comes rfl rfl rfl (by decide +kernel) ⟨Nat.le_of_ble_eq_true rfl, Nat.le_of_ble_eq_true rfl⟩) ⟨gP_blind, va_recv hK hP (ci := 9) (q0 := 0) rfl rfl, gP_ok hP hK⟩ rfl rfl hl.1 rfl (lv_room (Nat.le_of_ble_eq_true rfl)) dX12_does_53 ⟨Nat.zero_le _, Nat.zero_le _⟩) hP (gD_va hD rfl) hS (fun r26 u27 H locs hw hP hS => ?_)
      have hP : va_P (dC, dI) vwCl (mw q cI u27) H := hP
      have hf := bd_eq hw hf
      exact e_mi C0 (hf.symm.trans hF) hP hS dX12_does_56
  · have c4 := (lg_cmp_eq _ _).mp c4
    have hf := it_eq c4 hf
    have hok := it_ok c4 hok
    refine lv_aload_n hx hb dX12_does_32 rfl (lv_at hl 3 rfl) ?_
    refine lv_iload_n hx hb dX12_does_33 rfl (lv_at hl 2 rfl) ?_
    refine lv_iload_n hx hb dX12_does_34 rfl (lv_at hl 1 rfl) ?_
    have h28 : kX12_begins m x1 x2 := hok
    refine gms_i (va_runV (As := [.int x1, .int x2]) (rest := []) ⟨hx, hb, hml, hown, hts⟩ (mX12_begins l dC dI cI cB cO cL q m x1 x2 (gD_any hD) h28) (cwV 2 hts gX12_does_X12_begins rfl rfl rfl (by decide +kernel) ⟨Nat.le_of_ble_eq_true rfl, Nat.le_of_ble_eq_true rfl⟩) ⟨gP_blind, va_recv hK hP (ci := 9) (q0 := 0) rfl rfl, gP_ok hP hK⟩ rfl rfl hl.1 rfl (lv_room (Nat.le_of_ble_eq_true rfl)) dX12_does_35 ⟨Nat.zero_le _, Nat.zero_le _⟩) hP (gD_va hD rfl) hS (fun r29 u30 H locs hw hP hS => ?_)
    have hP : va_P (dC, dI) vwCl (mw q cI u30) H := hP
    have hf := bd_eq hw hf
    exact e_mi C0 (hf.symm.trans hF) hP hS dX12_does_38
noncomputable def pX12_runCommands_L95   (v2_95 : Int32) (m_95 : MS) : Int32 × MS := bd (pX12_ends m_95 v2_95) fun (r15 : Int32) (u16 : MS) => (r15, u16)
def kX12_runCommands_L95   (v2_95 : Int32) (m_95 : MS) : Prop := kX12_ends m_95 v2_95
noncomputable def pX12_runCommands_L90  (q_40 : Int32 → MS → (Int32 × MS)) (t0_90 : Int32) (t1_90 : Bool) (m_90 : MS) : Int32 × MS := lt (t0_90 + (bz t1_90)) fun (x24 : Int32) => q_40 x24 m_90
def kX12_runCommands_L90  (Q_40 : Int32 → MS → Prop) (t0_90 : Int32) (t1_90 : Bool) (m_90 : MS) : Prop := lt (t0_90 + (bz t1_90)) fun (x24 : Int32) => Q_40 x24 m_90
noncomputable def pX12_runCommands_L74  (q_40 : Int32 → MS → (Int32 × MS)) (v2_74 : Int32) (t1_74 : Int32) (m_74 : MS) : Int32 × MS := lt (msi m_74 2 t1_74) fun (m_22 : MS) => if (m_22.1 2) = 0 then (pX12_runCommands_L90 q_40 v2_74 true m_22) else (pX12_runCommands_L90 q_40 v2_74 false m_22)
def kX12_runCommands_L74  (Q_40 : Int32 → MS → Prop) (v2_74 : Int32) (t1_74 : Int32) (m_74 : MS) : Prop := lt (msi m_74 2 t1_74) fun (m_22 : MS) => if (m_22.1 2) = 0 then (kX12_runCommands_L90 Q_40 v2_74 true m_22) else (kX12_runCommands_L90 Q_40 v2_74 false m_22)
noncomputable def bX12_runCommands_L40   (q_40 : Int32 → MS → (Int32 × MS)) (v2_40 : Int32) (m_40 : MS) : Int32 × MS := if (m_40.1 1) ≤ (m_40.1 7) then (pX12_runCommands_L95 v2_40 m_40) else (if (m_40.1 2) = 0 then (bd (pX12_isCommand m_40) fun (r19 : Bool) (u20 : MS) => if r19 = true then (bd (pX12_does u20) fun (r26 : Int32) (u27 : MS) => pX12_runCommands_L74 q_40 v2_40 r26 u27) else (pX12_runCommands_L74 q_40 v2_40 0 u20)) else (pX12_runCommands_L95 v2_40 m_40))
noncomputable def pX12_runCommands_L40   : Nat → Int32 → MS → (Int32 × MS)
  | 0 => fun _ m_40 => (0, m_40)
  | n + 1 => bX12_runCommands_L40   (pX12_runCommands_L40   n)
def kbX12_runCommands_L40   (Q_40 : Int32 → MS → Prop) (v2_40 : Int32) (m_40 : MS) : Prop := if (m_40.1 1) ≤ (m_40.1 7) then (kX12_runCommands_L95 v2_40 m_40) else (if (m_40.1 2) = 0 then ((kX12_isCommand m_40) ∧ (bd (pX12_isCommand m_40) fun (r19 : Bool) (u20 : MS) => if r19 = true then ((kX12_does u20) ∧ (bd (pX12_does u20) fun (r26 : Int32) (u27 : MS) => kX12_runCommands_L74 Q_40 v2_40 r26 u27)) else (kX12_runCommands_L74 Q_40 v2_40 0 u20))) else (kX12_runCommands_L95 v2_40 m_40))
noncomputable def kX12_runCommands_L40   : Nat → Int32 → MS → Prop
  | 0 => fun _ _ => False
  | n + 1 => kbX12_runCommands_L40   (kX12_runCommands_L40   n)
noncomputable def pX12_runCommands (m : MS) : Int32 × MS := bd (pX12_faultAt m) fun (r2 : Int32) (u3 : MS) => if r2 = (-1000000000) then (lt (pX12_hold u3) fun (u7 : MS) => lt (msi u7 2 0) fun (m_8 : MS) => lt (msi m_8 7 0) fun (m_9 : MS) => lt (pX12_skips m_9) fun (u12 : MS) => pX12_runCommands_L40 fu 0 u12) else (bd (pX12_tells u3 ((-10) - r2)) fun (r28 : Int32) (u29 : MS) => (r28, u29))
def kX12_runCommands (m : MS) : Prop := (kX12_faultAt m) ∧ (bd (pX12_faultAt m) fun (r2 : Int32) (u3 : MS) => if r2 = (-1000000000) then ((kX12_hold u3) ∧ (lt (pX12_hold u3) fun (u7 : MS) => lt (msi u7 2 0) fun (m_8 : MS) => lt (msi m_8 7 0) fun (m_9 : MS) => (kX12_skips m_9) ∧ (lt (pX12_skips m_9) fun (u12 : MS) => kX12_runCommands_L40 fu 0 u12))) else (True))
abbrev rX12_runCommands : Room := { frames := 7, cells := 0, slots := 0, locals := 184 }
set_option maxHeartbeats 4000000 in
set_option maxRecDepth 100000 in
theorem mX12_runCommands (l : Launch) (dC : Nat → ClassId) (dI : Nat → Nat → Nat) (cI cB cO cL : ClassId) (q : Nat → Nat) (m : MS) (hI : gD (fun _ => True) (mAd q)) (hok : kX12_runCommands m) : Met l yX12_runCommands wsX12_runCommands rX12_runCommands (gP (dC, dI) (tYS cI cB cO cL) (mw q cI m) [.ref (q 0)]) (gQi (dC, dI) (fun m9 => mw q cI m9) (wA (mw q cI m)) (pX12_runCommands m)) 0 0 (wA (mw q cI m)) := by
  refine gMet (cc := cX12_runCommands) (maxL := 3) (ret := some .int) [(0, .ref (q 0))] (by decide) rfl rfl rfl ?_
  intro p e s mi below meth c C0 hK hP ls hl
  obtain ⟨hx, hb, hr, hml, hown, hts, hlocks⟩ := id C0
  have hown : s.vm.findClass RX12 = some mi.cls := hown
  have hS : va_S (wA (mw q cI m)) s.heap s.heap [] := va_S.rf
  have hD : gD (wA (mw q cI m)) (mAd q) := gD_wA (ws := mw q cI m) hI
  have hP : va_P (dC, dI) vwCl (mw q cI m) s.heap := hP
  obtain ⟨F, hF⟩ : ∃ F, F = pX12_runCommands m := ⟨_, rfl⟩
  have hf := hF
  have hin12 : ∀ w ∈ u_ws RX12 TX12 23, w ∈ wsX12_runCommands := by decide +kernel
  have cn71 := hts (.constant RX12 71 (-1000000000)) (by decide +kernel)
  have fl282 := hts (.fieldLink RX12 282 "ClickBenchModel" "stopped" "I") (by decide +kernel)
  have fl238 := hts (.fieldLink RX12 238 "ClickBenchModel" "spot" "I") (by decide +kernel)
  have fl235 := hts (.fieldLink RX12 235 "ClickBenchModel" "typed" "I") (by decide +kernel)
  have J_95 : ∀ (v2_95 : Int32) (m_95 : MS) (H : Heap) (locs : List Loc), va_P (dC, dI) vwCl (mw q cI m_95) H → va_S (wA (mw q cI m)) s.heap H locs → ∀ ls : Array Slot, lv_has ls 3 [(0, .ref (q 0)), (2, .int v2_95)] → F = pX12_runCommands_L95 v2_95 m_95 → kX12_runCommands_L95 v2_95 m_95 → W p l e rX12_runCommands s mi ([.ref (q 0)] : List Value).toArray below meth c H locs 0 0 (MQ below (gQi (dC, dI) (fun m9 => mw q cI m9) (wA (mw q cI m)) (pX12_runCommands m)) ([.ref (q 0)] : List Value).toArray s 0 0 (wA (mw q cI m))) (F0 mi 95 ls []) := by
    intro v2_95 m_95 H locs hP hS ls hl hf hok
    refine lv_aload_n hx hb dX12_runCommands_95 rfl (lv_at hl 0 rfl) ?_
    refine lv_iload_n hx hb dX12_runCommands_96 rfl (lv_at hl 1 rfl) ?_
    have h14 : kX12_ends m_95 v2_95 := hok
    refine gms_i (va_runV (As := [.int v2_95]) (rest := []) ⟨hx, hb, hml, hown, hts⟩ (mX12_ends l dC dI cI cB cO cL q m_95 v2_95 (gD_any hD) h14) (cwV 1 hts gX12_runCommands_X12_ends rfl rfl rfl (by decide +kernel) ⟨Nat.le_of_ble_eq_true rfl, Nat.le_of_ble_eq_true rfl⟩) ⟨gP_blind, va_recv hK hP (ci := 9) (q0 := 0) rfl rfl, gP_ok hP hK⟩ rfl rfl hl.1 rfl (lv_room (Nat.le_of_ble_eq_true rfl)) dX12_runCommands_97 ⟨Nat.zero_le _, Nat.zero_le _⟩) hP (gD_va hD rfl) hS (fun r15 u16 H locs hw hP hS => ?_)
    have hP : va_P (dC, dI) vwCl (mw q cI u16) H := hP
    have hf := bd_eq hw hf
    exact e_mi C0 (hf.symm.trans hF) hP hS dX12_runCommands_100
  have J_40 : ∀ (n_40 : Nat) (v2_40 : Int32) (m_40 : MS) (H : Heap) (locs : List Loc), va_P (dC, dI) vwCl (mw q cI m_40) H → va_S (wA (mw q cI m)) s.heap H locs → ∀ ls : Array Slot, lv_has ls 3 [(0, .ref (q 0)), (2, .int v2_40)] → F = pX12_runCommands_L40 n_40 v2_40 m_40 → kX12_runCommands_L40 n_40 v2_40 m_40 → W p l e rX12_runCommands s mi ([.ref (q 0)] : List Value).toArray below meth c H locs 0 0 (MQ below (gQi (dC, dI) (fun m9 => mw q cI m9) (wA (mw q cI m)) (pX12_runCommands m)) ([.ref (q 0)] : List Value).toArray s 0 0 (wA (mw q cI m))) (F0 mi 40 ls []) := by
    intro n_40
    induction n_40 with
    | zero =>
      intro v2_40 m_40 H locs hP hS ls hl hf hok
      exact absurd hok (fun h => h)
    | succ n_40 ih_40 =>
      have J_90 : ∀ (t0_90 : Int32) (t1_90 : Bool) (m_90 : MS) (H : Heap) (locs : List Loc), va_P (dC, dI) vwCl (mw q cI m_90) H → va_S (wA (mw q cI m)) s.heap H locs → ∀ ls : Array Slot, lv_has ls 3 [(0, .ref (q 0))] → F = pX12_runCommands_L90 (pX12_runCommands_L40 n_40) t0_90 t1_90 m_90 → kX12_runCommands_L90 (kX12_runCommands_L40 n_40) t0_90 t1_90 m_90 → W p l e rX12_runCommands s mi ([.ref (q 0)] : List Value).toArray below meth c H locs 0 0 (MQ below (gQi (dC, dI) (fun m9 => mw q cI m9) (wA (mw q cI m)) (pX12_runCommands m)) ([.ref (q 0)] : List Value).toArray s 0 0 (wA (mw q cI m))) (F0 mi 90 ls [.int (bz t1_90), .int t0_90]) := by
        intro t0_90 t1_90 m_90 H locs hP hS ls hl hf hok
        refine lv_iadd hx hb dX12_runCommands_90 ?_
        refine lv_topi (fun x24 ex24 => ?_)
        have hf := lt_eq ex24 hf
        have hok := lt_ok ex24 hok
        refine lv_istore_n (lv' := [(2, .int x24), (0, .ref (q 0))]) hx hb dX12_runCommands_91 rfl hl (by decide) rfl (fun ls hl => ?_)
        refine lv_goto (tgt := 40) hx hb dX12_runCommands_92 (by decide) ?_
        exact ih_40 x24 m_90 _ _ hP hS _ (lv_sub hl [1, 0] rfl) hf hok
      have J_74 : ∀ (v2_74 : Int32) (t1_74 : Int32) (m_74 : MS) (H : Heap) (locs : List Loc), va_P (dC, dI) vwCl (mw q cI m_74) H → va_S (wA (mw q cI m)) s.heap H locs → ∀ ls : Array Slot, lv_has ls 3 [(0, .ref (q 0)), (2, .int v2_74)] → F = pX12_runCommands_L74 (pX12_runCommands_L40 n_40) v2_74 t1_74 m_74 → kX12_runCommands_L74 (kX12_runCommands_L40 n_40) v2_74 t1_74 m_74 → W p l e rX12_runCommands s mi ([.ref (q 0)] : List Value).toArray below meth c H locs 0 0 (MQ below (gQi (dC, dI) (fun m9 => mw q cI m9) (wA (mw q cI m)) (pX12_runCommands m)) ([.ref (q 0)] : List Value).toArray s 0 0 (wA (mw q cI m))) (F0 mi 74 ls [.int t1_74, .ref (q 0)]) := by
        intro v2_74 t1_74 m_74 H locs hP hS ls hl hf hok
        refine va_put (D := (dC, dI)) (ci := 9) (v := .int t1_74) (ty := .int) (C := RX12) (T := TX12) (N := 23) hx hb hts hin12 tyX12 tyX12_ok nmX12 hown hK hP (gD_va hD rfl) hS 0 rfl rfl 6 (by decide) fl282 (fun _ h9 => h9) rfl (by decide +kernel) rfl rfl (Nat.le_of_ble_eq_true rfl) dX12_runCommands_74 (fun H locs hP _ hS => ?_)
        obtain ⟨m_22, em_22⟩ : ∃ z9 : MS, z9 = msi m_74 2 t1_74 := ⟨_, rfl⟩
        have hP : va_P (dC, dI) vwCl (mw q cI m_22) H := by rw [em_22]; exact hP
        have hf := lt_eq em_22 hf
        have hok := lt_ok em_22 hok
        refine lv_iload_n hx hb dX12_runCommands_77 rfl (lv_at hl 1 rfl) ?_
        refine lv_aload_n hx hb dX12_runCommands_78 rfl (lv_at hl 0 rfl) ?_
        refine va_get (D := (dC, dI)) (ci := 9) (v := .int (m_22.1 2)) (C := RX12) (T := TX12) (N := 23) hx hb hts hin12 hown hK hP 0 rfl rfl 6 (by decide) fl282 (fun _ h9 => h9) rfl dX12_runCommands_79 ?_
        refine lv_if_ne (tgt := 89) hx hb dX12_runCommands_82 (by decide) (fun c23 => ?_) (fun c23 => ?_)
        · have hf := ie_eq c23 hf
          have hok := ie_ok c23 hok
          refine lv_iconst (v := 0) hx hb dX12_runCommands_89 (by decide) ?_
          exact J_90 v2_74 false m_22 _ _ hP hS _ (lv_sub hl [0] rfl) hf hok
        · have hf := it_eq c23 hf
          have hok := it_ok c23 hok
          refine lv_iconst (v := 1) hx hb dX12_runCommands_85 (by decide) ?_
          refine lv_goto (tgt := 90) hx hb dX12_runCommands_86 (by decide) ?_
          exact J_90 v2_74 true m_22 _ _ hP hS _ (lv_sub hl [0] rfl) hf hok
      intro v2_40 m_40 H locs hP hS ls hl hf hok
      have hf : F = bX12_runCommands_L40 (pX12_runCommands_L40 n_40) v2_40 m_40 := hf
      have hok : kbX12_runCommands_L40 (kX12_runCommands_L40 n_40) v2_40 m_40 := hok
      refine lv_aload_n hx hb dX12_runCommands_40 rfl (lv_at hl 0 rfl) ?_
      refine va_get (D := (dC, dI)) (ci := 9) (v := .int (m_40.1 7)) (C := RX12) (T := TX12) (N := 23) hx hb hts hin12 hown hK hP 0 rfl rfl 19 (by decide) fl238 (fun _ h9 => h9) rfl dX12_runCommands_41 ?_
      refine lv_aload_n hx hb dX12_runCommands_44 rfl (lv_at hl 0 rfl) ?_
      refine va_get (D := (dC, dI)) (ci := 9) (v := .int (m_40.1 1)) (C := RX12) (T := TX12) (N := 23) hx hb hts hin12 hown hK hP 0 rfl rfl 5 (by decide) fl235 (fun _ h9 => h9) rfl dX12_runCommands_45 ?_
      refine lv_icmp_ge (tgt := 95) hx hb dX12_runCommands_48 (by decide) (fun c13 => ?_) (fun c13 => ?_)
      · have hf := it_eq c13 hf
        have hok := it_ok c13 hok
        exact J_95 v2_40 m_40 _ _ hP hS _ (lv_sub hl [0, 1] rfl) hf hok
      · have hf := ie_eq c13 hf
        have hok := ie_ok c13 hok
        refine lv_aload_n hx hb dX12_runCommands_51 rfl (lv_at hl 0 rfl) ?_
        refine va_get (D := (dC, dI)) (ci := 9) (v := .int (m_40.1 2)) (C := RX12) (T := TX12) (N := 23) hx hb hts hin12 hown hK hP 0 rfl rfl 6 (by decide) fl282 (fun _ h9 => h9) rfl dX12_runCommands_52 ?_
        refine lv_if_ne (tgt := 95) hx hb dX12_runCommands_55 (by decide) (fun c17 => ?_) (fun c17 => ?_)
        · have hf := ie_eq c17 hf
          have hok := ie_ok c17 hok
          exact J_95 v2_40 m_40 _ _ hP hS _ (lv_sub hl [0, 1] rfl) hf hok
        · have hf := it_eq c17 hf
          have hok := it_ok c17 hok
          refine lv_aload_n hx hb dX12_runCommands_58 rfl (lv_at hl 0 rfl) ?_
          refine lv_aload_n hx hb dX12_runCommands_59 rfl (lv_at hl 0 rfl) ?_
          obtain ⟨h18, hok⟩ := hok
          refine gms_z (va_runV (As := []) (rest := [.ref (q 0)]) ⟨hx, hb, hml, hown, hts⟩ (mX12_isCommand l dC dI cI cB cO cL q m_40 (gD_any hD) h18) (cwV 0 hts gX12_runCommands_X12_isCommand rfl rfl rfl (by decide +kernel) ⟨Nat.le_of_ble_eq_true rfl, Nat.le_of_ble_eq_true rfl⟩) ⟨gP_blind, va_recv hK hP (ci := 9) (q0 := 0) rfl rfl, gP_ok hP hK⟩ rfl rfl hl.1 rfl (lv_room (Nat.le_of_ble_eq_true rfl)) dX12_runCommands_60 ⟨Nat.zero_le _, Nat.zero_le _⟩) hP (gD_va hD rfl) hS (fun r19 u20 H locs hw hP hS => ?_)
          have hP : va_P (dC, dI) vwCl (mw q cI u20) H := hP
          have hf := bd_eq hw hf
          have hok := bd_ok hw hok
          refine lv_if_eq (tgt := 73) hx hb dX12_runCommands_63 (by decide) (fun c21 => ?_) (fun c21 => ?_)
          · have c21 := bz_f c21
            have hf := ie_eq c21 hf
            have hok := ie_ok c21 hok
            refine lv_iconst (v := 0) hx hb dX12_runCommands_73 (by decide) ?_
            exact J_74 v2_40 0 u20 _ _ hP hS _ (lv_sub hl [0, 1] rfl) hf hok
          · have c21 := bz_t c21
            have hf := it_eq c21 hf
            have hok := it_ok c21 hok
            refine lv_aload_n hx hb dX12_runCommands_66 rfl (lv_at hl 0 rfl) ?_
            obtain ⟨h25, hok⟩ := hok
            refine gms_i (va_runV (As := []) (rest := [.ref (q 0)]) ⟨hx, hb, hml, hown, hts⟩ (mX12_does l dC dI cI cB cO cL q u20 (gD_any hD) h25) (cwV 0 hts gX12_runCommands_X12_does rfl rfl rfl (by decide +kernel) ⟨Nat.le_of_ble_eq_true rfl, Nat.le_of_ble_eq_true rfl⟩) ⟨gP_blind, va_recv hK hP (ci := 9) (q0 := 0) rfl rfl, gP_ok hP hK⟩ rfl rfl hl.1 rfl (lv_room (Nat.le_of_ble_eq_true rfl)) dX12_runCommands_67 ⟨Nat.zero_le _, Nat.zero_le _⟩) hP (gD_va hD rfl) hS (fun r26 u27 H locs hw hP hS => ?_)
            have hP : va_P (dC, dI) vwCl (mw q cI u27) H := hP
            have hf := bd_eq hw hf
            have hok := bd_ok hw hok
            refine lv_goto (tgt := 74) hx hb dX12_runCommands_70 (by decide) ?_
            exact J_74 v2_40 r26 u27 _ _ hP hS _ (lv_sub hl [0, 1] rfl) hf hok
  refine lv_aload_n hx hb dX12_runCommands_0 rfl (lv_at hl 0 rfl) ?_
  obtain ⟨h1, hok⟩ := hok
  refine gms_i (va_runV (As := []) (rest := []) ⟨hx, hb, hml, hown, hts⟩ (mX12_faultAt l dC dI cI cB cO cL q m (gD_any hD) h1) (cwV 0 hts gX12_runCommands_X12_faultAt rfl rfl rfl (by decide +kernel) ⟨Nat.le_of_ble_eq_true rfl, Nat.le_of_ble_eq_true rfl⟩) ⟨gP_blind, va_recv hK hP (ci := 9) (q0 := 0) rfl rfl, gP_ok hP hK⟩ rfl rfl hl.1 rfl (lv_room (Nat.le_of_ble_eq_true rfl)) dX12_runCommands_1 ⟨Nat.zero_le _, Nat.zero_le _⟩) hP (gD_va hD rfl) hS (fun r2 u3 H locs hw hP hS => ?_)
  have hP : va_P (dC, dI) vwCl (mw q cI u3) H := hP
  have hf := bd_eq hw hf
  have hok := bd_ok hw hok
  refine lv_istore_n (lv' := [(1, .int r2), (0, .ref (q 0))]) hx hb dX12_runCommands_4 rfl hl (by decide) rfl (fun ls hl => ?_)
  refine lv_iload_n hx hb dX12_runCommands_5 rfl (lv_at hl 0 rfl) ?_
  refine lv_ldc (v := (-1000000000)) hx hb hown cn71 dX12_runCommands_6 ?_
  refine lv_icmp_eq (tgt := 20) hx hb dX12_runCommands_8 (by decide) (fun c4 => ?_) (fun c4 => ?_)
  · have hf := it_eq c4 hf
    have hok := it_ok c4 hok
    refine lv_aload_n hx hb dX12_runCommands_20 rfl (lv_at hl 1 rfl) ?_
    obtain ⟨h5, hok⟩ := hok
    refine gms_v (va_runV (As := []) (rest := []) ⟨hx, hb, hml, hown, hts⟩ (mX12_hold l dC dI cI cB cO cL q u3 (gD_any hD) h5) (cwV 0 hts gX12_runCommands_X12_hold rfl rfl rfl (by decide +kernel) ⟨Nat.le_of_ble_eq_true rfl, Nat.le_of_ble_eq_true rfl⟩) ⟨gP_blind, va_recv hK hP (ci := 9) (q0 := 0) rfl rfl, gP_ok hP hK⟩ rfl rfl hl.1 rfl (lv_room (Nat.le_of_ble_eq_true rfl)) dX12_runCommands_21 ⟨Nat.zero_le _, Nat.zero_le _⟩) hP (gD_va hD rfl) hS (fun u7 H locs hw hP hS => ?_)
    have hP : va_P (dC, dI) vwCl (mw q cI u7) H := hP
    have hf := lt_eq hw hf
    have hok := lt_ok hw hok
    refine lv_aload_n hx hb dX12_runCommands_24 rfl (lv_at hl 1 rfl) ?_
    refine lv_iconst (v := 0) hx hb dX12_runCommands_25 (by decide) ?_
    refine va_put (D := (dC, dI)) (ci := 9) (v := .int 0) (ty := .int) (C := RX12) (T := TX12) (N := 23) hx hb hts hin12 tyX12 tyX12_ok nmX12 hown hK hP (gD_va hD rfl) hS 0 rfl rfl 6 (by decide) fl282 (fun _ h9 => h9) rfl (by decide +kernel) rfl rfl (Nat.le_of_ble_eq_true rfl) dX12_runCommands_26 (fun H locs hP _ hS => ?_)
    obtain ⟨m_8, em_8⟩ : ∃ z9 : MS, z9 = msi u7 2 0 := ⟨_, rfl⟩
    have hP : va_P (dC, dI) vwCl (mw q cI m_8) H := by rw [em_8]; exact hP
    have hf := lt_eq em_8 hf
    have hok := lt_ok em_8 hok
    refine lv_aload_n hx hb dX12_runCommands_29 rfl (lv_at hl 1 rfl) ?_
    refine lv_iconst (v := 0) hx hb dX12_runCommands_30 (by decide) ?_
    refine va_put (D := (dC, dI)) (ci := 9) (v := .int 0) (ty := .int) (C := RX12) (T := TX12) (N := 23) hx hb hts hin12 tyX12 tyX12_ok nmX12 hown hK hP (gD_va hD rfl) hS 0 rfl rfl 19 (by decide) fl238 (fun _ h9 => h9) rfl (by decide +kernel) rfl rfl (Nat.le_of_ble_eq_true rfl) dX12_runCommands_31 (fun H locs hP _ hS => ?_)
    obtain ⟨m_9, em_9⟩ : ∃ z9 : MS, z9 = msi m_8 7 0 := ⟨_, rfl⟩
    have hP : va_P (dC, dI) vwCl (mw q cI m_9) H := by rw [em_9]; exact hP
    have hf := lt_eq em_9 hf
    have hok := lt_ok em_9 hok
    refine lv_aload_n hx hb dX12_runCommands_34 rfl (lv_at hl 1 rfl) ?_
    obtain ⟨h10, hok⟩ := hok
    refine gms_v (va_runV (As := []) (rest := []) ⟨hx, hb, hml, hown, hts⟩ (mX12_skips l dC dI cI cB cO cL q m_9 (gD_any hD) h10) (cwV 0 hts gX12_runCommands_X12_skips rfl rfl rfl (by decide +kernel) ⟨Nat.le_of_ble_eq_true rfl, Nat.le_of_ble_eq_true rfl⟩) ⟨gP_blind, va_recv hK hP (ci := 9) (q0 := 0) rfl rfl, gP_ok hP hK⟩ rfl rfl hl.1 rfl (lv_room (Nat.le_of_ble_eq_true rfl)) dX12_runCommands_35 ⟨Nat.zero_le _, Nat.zero_le _⟩) hP (gD_va hD rfl) hS (fun u12 H locs hw hP hS => ?_)
    have hP : va_P (dC, dI) vwCl (mw q cI u12) H := hP
    have hf := lt_eq hw hf
    have hok := lt_ok hw hok
    refine lv_iconst (v := 0) hx hb dX12_runCommands_38 (by decide) ?_
    refine lv_istore_n (lv' := [(2, .int 0), (1, .int r2), (0, .ref (q 0))]) hx hb dX12_runCommands_39 rfl hl (by decide) rfl (fun ls hl => ?_)
    exact J_40 fu 0 u12 _ _ hP hS _ (lv_sub hl [2, 0] rfl) hf hok
  · have hf := ie_eq c4 hf
    refine lv_aload_n hx hb dX12_runCommands_11 rfl (lv_at hl 1 rfl) ?_
    refine lv_bipush (v := (-10)) hx hb dX12_runCommands_12 (by decide) ?_
    refine lv_iload_n hx hb dX12_runCommands_14 rfl (lv_at hl 0 rfl) ?_
    refine lv_isub hx hb dX12_runCommands_15 ?_
    refine gms_i (va_runV (As := [.int ((-10) - r2)]) (rest := []) ⟨hx, hb, hml, hown, hts⟩ (mX12_tells l dC dI cI cB cO cL q u3 ((-10) - r2) (gD_any hD) ) (cwV 1 hts gX12_runCommands_X12_tells rfl rfl rfl (by decide +kernel) ⟨Nat.le_of_ble_eq_true rfl, Nat.le_of_ble_eq_true rfl⟩) ⟨gP_blind, va_recv hK hP (ci := 9) (q0 := 0) rfl rfl, gP_ok hP hK⟩ rfl rfl hl.1 rfl (lv_room (Nat.le_of_ble_eq_true rfl)) dX12_runCommands_16 ⟨Nat.zero_le _, Nat.zero_le _⟩) hP (gD_va hD rfl) hS (fun r28 u29 H locs hw hP hS => ?_)
    have hP : va_P (dC, dI) vwCl (mw q cI u29) H := hP
    have hf := bd_eq hw hf
    exact e_mi C0 (hf.symm.trans hF) hP hS dX12_runCommands_19
noncomputable def pX12_stop (m : MS) : Int32 × MS := bd (pX12_tells m (m.1 2)) fun (r1 : Int32) (u2 : MS) => (r1, u2)
abbrev rX12_stop : Room := { frames := 1, cells := 0, slots := 0, locals := 21 }
set_option maxHeartbeats 4000000 in
set_option maxRecDepth 100000 in
theorem mX12_stop (l : Launch) (dC : Nat → ClassId) (dI : Nat → Nat → Nat) (cI cB cO cL : ClassId) (q : Nat → Nat) (m : MS) (hI : gD (fun _ => True) (mAd q)) : Met l yX12_stop wsX12_stop rX12_stop (gP (dC, dI) (tYS cI cB cO cL) (mw q cI m) [.ref (q 0)]) (gQi (dC, dI) (fun m9 => mw q cI m9) (wA (mw q cI m)) (pX12_stop m)) 0 0 (wA (mw q cI m)) := by
  refine gMet (cc := cX12_stop) (maxL := 1) (ret := some .int) [(0, .ref (q 0))] (by decide) rfl rfl rfl ?_
  intro p e s mi below meth c C0 hK hP ls hl
  obtain ⟨hx, hb, hr, hml, hown, hts, hlocks⟩ := id C0
  have hown : s.vm.findClass RX12 = some mi.cls := hown
  have hS : va_S (wA (mw q cI m)) s.heap s.heap [] := va_S.rf
  have hD : gD (wA (mw q cI m)) (mAd q) := gD_wA (ws := mw q cI m) hI
  have hP : va_P (dC, dI) vwCl (mw q cI m) s.heap := hP
  obtain ⟨F, hF⟩ : ∃ F, F = pX12_stop m := ⟨_, rfl⟩
  have hf := hF
  have hin12 : ∀ w ∈ u_ws RX12 TX12 23, w ∈ wsX12_stop := by decide +kernel
  have fl282 := hts (.fieldLink RX12 282 "ClickBenchModel" "stopped" "I") (by decide +kernel)
  refine lv_aload_n hx hb dX12_stop_0 rfl (lv_at hl 0 rfl) ?_
  refine lv_aload_n hx hb dX12_stop_1 rfl (lv_at hl 0 rfl) ?_
  refine va_get (D := (dC, dI)) (ci := 9) (v := .int (m.1 2)) (C := RX12) (T := TX12) (N := 23) hx hb hts hin12 hown hK hP 0 rfl rfl 6 (by decide) fl282 (fun _ h9 => h9) rfl dX12_stop_2 ?_
  refine gms_i (va_runV (As := [.int (m.1 2)]) (rest := []) ⟨hx, hb, hml, hown, hts⟩ (mX12_tells l dC dI cI cB cO cL q m (m.1 2) (gD_any hD) ) (cwV 1 hts gX12_stop_X12_tells rfl rfl rfl (by decide +kernel) ⟨Nat.le_of_ble_eq_true rfl, Nat.le_of_ble_eq_true rfl⟩) ⟨gP_blind, va_recv hK hP (ci := 9) (q0 := 0) rfl rfl, gP_ok hP hK⟩ rfl rfl hl.1 rfl (lv_room (Nat.le_of_ble_eq_true rfl)) dX12_stop_5 ⟨Nat.zero_le _, Nat.zero_le _⟩) hP (gD_va hD rfl) hS (fun r1 u2 H locs hw hP hS => ?_)
  have hP : va_P (dC, dI) vwCl (mw q cI u2) H := hP
  have hf := bd_eq hw hf
  exact e_mi C0 (hf.symm.trans hF) hP hS dX12_stop_8
noncomputable def bX12_undo_L25   (q_25 : Int32 → MS → (Int32 × MS)) (v1_25 : Int32) (m_25 : MS) : Int32 × MS := if 122 ≤ v1_25 then (bd (pX12_tells m_25 (m_25.1 0)) fun (r4 : Int32) (u5 : MS) => (r4, u5)) else (lt (msa m_25 0 (upd (m_25.2.2 0) v1_25.toNatClampNeg ((m_25.2.2 1) (((122 * (m_25.1 0)) + v1_25).toNatClampNeg)))) fun (m_7 : MS) => lt (v1_25 + 1) fun (x8 : Int32) => q_25 x8 m_7)
noncomputable def pX12_undo_L25   : Nat → Int32 → MS → (Int32 × MS)
  | 0 => fun _ m_25 => (0, m_25)
  | n + 1 => bX12_undo_L25   (pX12_undo_L25   n)
def kbX12_undo_L25   (Q_25 : Int32 → MS → Prop) (v1_25 : Int32) (m_25 : MS) : Prop := if 122 ≤ v1_25 then (True) else ((vp_in ((122 * (m_25.1 0)) + v1_25) 488) ∧ ((vp_in v1_25 122) ∧ (lt (msa m_25 0 (upd (m_25.2.2 0) v1_25.toNatClampNeg ((m_25.2.2 1) (((122 * (m_25.1 0)) + v1_25).toNatClampNeg)))) fun (m_7 : MS) => lt (v1_25 + 1) fun (x8 : Int32) => Q_25 x8 m_7)))
noncomputable def kX12_undo_L25   : Nat → Int32 → MS → Prop
  | 0 => fun _ _ => False
  | n + 1 => kbX12_undo_L25   (kX12_undo_L25   n)
noncomputable def pX12_undo (m : MS) : Int32 × MS := if (m.1 0) = 0 then (bd (pX12_fails m 1) fun (r10 : Int32) (u11 : MS) => (r10, u11)) else (lt (msi m 0 ((m.1 0) - 1)) fun (m_2 : MS) => pX12_undo_L25 fu 0 m_2)
def kX12_undo (m : MS) : Prop := if (m.1 0) = 0 then (True) else (lt (msi m 0 ((m.1 0) - 1)) fun (m_2 : MS) => kX12_undo_L25 fu 0 m_2)
abbrev rX12_undo : Room := { frames := 1, cells := 0, slots := 0, locals := 21 }
set_option maxHeartbeats 4000000 in
set_option maxRecDepth 100000 in
theorem mX12_undo (l : Launch) (dC : Nat → ClassId) (dI : Nat → Nat → Nat) (cI cB cO cL : ClassId) (q : Nat → Nat) (m : MS) (hI : gD (fun _ => True) (mAd q)) (hok : kX12_undo m) : Met l yX12_undo wsX12_undo rX12_undo (gP (dC, dI) (tYS cI cB cO cL) (mw q cI m) [.ref (q 0)]) (gQi (dC, dI) (fun m9 => mw q cI m9) (wA (mw q cI m)) (pX12_undo m)) 0 0 (wA (mw q cI m)) := by
  refine gMet (cc := cX12_undo) (maxL := 2) (ret := some .int) [(0, .ref (q 0))] (by decide) rfl rfl rfl ?_
  intro p e s mi below meth c C0 hK hP ls hl
  obtain ⟨hx, hb, hr, hml, hown, hts, hlocks⟩ := id C0
  have hown : s.vm.findClass RX12 = some mi.cls := hown
  have hS : va_S (wA (mw q cI m)) s.heap s.heap [] := va_S.rf
  have hD : gD (wA (mw q cI m)) (mAd q) := gD_wA (ws := mw q cI m) hI
  have hP : va_P (dC, dI) vwCl (mw q cI m) s.heap := hP
  obtain ⟨F, hF⟩ : ∃ F, F = pX12_undo m := ⟨_, rfl⟩
  have hf := hF
  have hin12 : ∀ w ∈ u_ws RX12 TX12 23, w ∈ wsX12_undo := by decide +kernel
  have fl53 := hts (.fieldLink RX12 53 "ClickBenchModel" "pasts" "I") (by decide +kernel)
  have fl7 := hts (.fieldLink RX12 7 "ClickBenchModel" "s" "[I") (by decide +kernel)
  have fl13 := hts (.fieldLink RX12 13 "ClickBenchModel" "past" "[I") (by decide +kernel)
  have J_25 : ∀ (n_25 : Nat) (v1_25 : Int32) (m_25 : MS) (H : Heap) (locs : List Loc), va_P (dC, dI) vwCl (mw q cI m_25) H → va_S (wA (mw q cI m)) s.heap H locs → ∀ ls : Array Slot, lv_has ls 2 [(0, .ref (q 0)), (1, .int v1_25)] → F = pX12_undo_L25 n_25 v1_25 m_25 → kX12_undo_L25 n_25 v1_25 m_25 → W p l e rX12_undo s mi ([.ref (q 0)] : List Value).toArray below meth c H locs 0 0 (MQ below (gQi (dC, dI) (fun m9 => mw q cI m9) (wA (mw q cI m)) (pX12_undo m)) ([.ref (q 0)] : List Value).toArray s 0 0 (wA (mw q cI m))) (F0 mi 25 ls []) := by
    intro n_25
    induction n_25 with
    | zero =>
      intro v1_25 m_25 H locs hP hS ls hl hf hok
      exact absurd hok (fun h => h)
    | succ n_25 ih_25 =>
      intro v1_25 m_25 H locs hP hS ls hl hf hok
      have hf : F = bX12_undo_L25 (pX12_undo_L25 n_25) v1_25 m_25 := hf
      have hok : kbX12_undo_L25 (kX12_undo_L25 n_25) v1_25 m_25 := hok
      refine lv_iload_n hx hb dX12_undo_25 rfl (lv_at hl 1 rfl) ?_
      refine lv_bipush (v := 122) hx hb dX12_undo_26 (by decide) ?_
      refine lv_icmp_ge (tgt := 57) hx hb dX12_undo_28 (by decide) (fun c3 => ?_) (fun c3 => ?_)
      · have hf := it_eq c3 hf
        refine lv_aload_n hx hb dX12_undo_57 rfl (lv_at hl 0 rfl) ?_
        refine lv_aload_n hx hb dX12_undo_58 rfl (lv_at hl 0 rfl) ?_
        refine va_get (D := (dC, dI)) (ci := 9) (v := .int (m_25.1 0)) (C := RX12) (T := TX12) (N := 23) hx hb hts hin12 hown hK hP 0 rfl rfl 3 (by decide) fl53 (fun _ h9 => h9) rfl dX12_undo_59 ?_
        refine gms_i (va_runV (As := [.int (m_25.1 0)]) (rest := []) ⟨hx, hb, hml, hown, hts⟩ (mX12_tells l dC dI cI cB cO cL q m_25 (m_25.1 0) (gD_any hD) ) (cwV 1 hts gX12_undo_X12_tells rfl rfl rfl (by decide +kernel) ⟨Nat.le_of_ble_eq_true rfl, Nat.le_of_ble_eq_true rfl⟩) ⟨gP_blind, va_recv hK hP (ci := 9) (q0 := 0) rfl rfl, gP_ok hP hK⟩ rfl rfl hl.1 rfl (lv_room (Nat.le_of_ble_eq_true rfl)) dX12_undo_62 ⟨Nat.zero_le _, Nat.zero_le _⟩) hP (gD_va hD rfl) hS (fun r4 u5 H locs hw hP hS => ?_)
        have hP : va_P (dC, dI) vwCl (mw q cI u5) H := hP
        have hf := bd_eq hw hf
        exact e_mi C0 (hf.symm.trans hF) hP hS dX12_undo_65
      · have hf := ie_eq c3 hf
        have hok := ie_ok c3 hok
        refine lv_aload_n hx hb dX12_undo_31 rfl (lv_at hl 0 rfl) ?_
        refine va_get (D := (dC, dI)) (ci := 9) (v := .ref (q 1)) (C := RX12) (T := TX12) (N := 23) hx hb hts hin12 hown hK hP 0 rfl rfl 0 (by decide) fl7 (fun _ h9 => h9) rfl dX12_undo_32 ?_
        refine lv_iload_n hx hb dX12_undo_35 rfl (lv_at hl 1 rfl) ?_
        refine lv_aload_n hx hb dX12_undo_36 rfl (lv_at hl 0 rfl) ?_
        refine va_get (D := (dC, dI)) (ci := 9) (v := .ref (q 2)) (C := RX12) (T := TX12) (N := 23) hx hb hts hin12 hown hK hP 0 rfl rfl 1 (by decide) fl13 (fun _ h9 => h9) rfl dX12_undo_37 ?_
        refine lv_bipush (v := 122) hx hb dX12_undo_40 (by decide) ?_
        refine lv_aload_n hx hb dX12_undo_42 rfl (lv_at hl 0 rfl) ?_
        refine va_get (D := (dC, dI)) (ci := 9) (v := .int (m_25.1 0)) (C := RX12) (T := TX12) (N := 23) hx hb hts hin12 hown hK hP 0 rfl rfl 3 (by decide) fl53 (fun _ h9 => h9) rfl dX12_undo_43 ?_
        refine lv_imul hx hb dX12_undo_46 ?_
        refine lv_iload_n hx hb dX12_undo_47 rfl (lv_at hl 1 rfl) ?_
        refine lv_iadd hx hb dX12_undo_48 ?_
        obtain ⟨h9, hok⟩ := hok
        refine va_iald (D := (dC, dI)) (tys := (tYS cI cB cO cL)) hx hb hK hP 2 0 rfl rfl h9 dX12_undo_49 ?_
        obtain ⟨h6, hok⟩ := hok
        refine va_iast (D := (dC, dI)) (tys := (tYS cI cB cO cL)) hx hb hK hP (gD_va hD rfl) hS 1 0 rfl rfl h6 dX12_undo_50 (fun H locs hP _ hS => ?_)
        obtain ⟨m_7, em_7⟩ : ∃ z9 : MS, z9 = msa m_25 0 (upd (m_25.2.2 0) v1_25.toNatClampNeg ((m_25.2.2 1) (((122 * (m_25.1 0)) + v1_25).toNatClampNeg))) := ⟨_, rfl⟩
        have hP : va_P (dC, dI) vwCl (mw q cI m_7) H := by rw [em_7]; exact hP
        have hf := lt_eq em_7 hf
        have hok := lt_ok em_7 hok
        obtain ⟨x8, ex8⟩ : ∃ y : Int32, y = v1_25 + 1 := ⟨_, rfl⟩
        refine lv_iinc (v := x8) (lv' := [(1, .int x8), (0, .ref (q 0))]) hx hb dX12_undo_51 hl (k := 1) rfl (by rw [ex8]; rfl) (by decide) rfl (fun ls hl => ?_)
        have hf := lt_eq ex8 hf
        have hok := lt_ok ex8 hok
        refine lv_goto (tgt := 25) hx hb dX12_undo_54 (by decide) ?_
        exact ih_25 x8 m_7 _ _ hP hS _ (lv_sub hl [1, 0] rfl) hf hok
  refine lv_aload_n hx hb dX12_undo_0 rfl (lv_at hl 0 rfl) ?_
  refine va_get (D := (dC, dI)) (ci := 9) (v := .int (m.1 0)) (C := RX12) (T := TX12) (N := 23) hx hb hts hin12 hown hK hP 0 rfl rfl 3 (by decide) fl53 (fun _ h9 => h9) rfl dX12_undo_1 ?_
  refine lv_if_ne (tgt := 13) hx hb dX12_undo_4 (by decide) (fun c1 => ?_) (fun c1 => ?_)
  · have hf := ie_eq c1 hf
    have hok := ie_ok c1 hok
    refine lv_aload_n hx hb dX12_undo_13 rfl (lv_at hl 0 rfl) ?_
    refine lv_dup hx hb dX12_undo_14 rfl ?_
    refine va_get (D := (dC, dI)) (ci := 9) (v := .int (m.1 0)) (C := RX12) (T := TX12) (N := 23) hx hb hts hin12 hown hK hP 0 rfl rfl 3 (by decide) fl53 (fun _ h9 => h9) rfl dX12_undo_15 ?_
    refine lv_iconst (v := 1) hx hb dX12_undo_18 (by decide) ?_
    refine lv_isub hx hb dX12_undo_19 ?_
    refine va_put (D := (dC, dI)) (ci := 9) (v := .int ((m.1 0) - 1)) (ty := .int) (C := RX12) (T := TX12) (N := 23) hx hb hts hin12 tyX12 tyX12_ok nmX12 hown hK hP (gD_va hD rfl) hS 0 rfl rfl 3 (by decide) fl53 (fun _ h9 => h9) rfl (by decide +kernel) rfl rfl (Nat.le_of_ble_eq_true rfl) dX12_undo_20 (fun H locs hP _ hS => ?_)
    obtain ⟨m_2, em_2⟩ : ∃ z9 : MS, z9 = msi m 0 ((m.1 0) - 1) := ⟨_, rfl⟩
    have hP : va_P (dC, dI) vwCl (mw q cI m_2) H := by rw [em_2]; exact hP
    have hf := lt_eq em_2 hf
    have hok := lt_ok em_2 hok
    refine lv_iconst (v := 0) hx hb dX12_undo_23 (by decide) ?_
    refine lv_istore_n (lv' := [(1, .int 0), (0, .ref (q 0))]) hx hb dX12_undo_24 rfl hl (by decide) rfl (fun ls hl => ?_)
    exact J_25 fu 0 m_2 _ _ hP hS _ (lv_sub hl [1, 0] rfl) hf hok
  · have hf := it_eq c1 hf
    refine lv_aload_n hx hb dX12_undo_7 rfl (lv_at hl 0 rfl) ?_
    refine lv_iconst (v := 1) hx hb dX12_undo_8 (by decide) ?_
    refine gms_i (va_runV (As := [.int 1]) (rest := []) ⟨hx, hb, hml, hown, hts⟩ (mX12_fails l dC dI cI cB cO cL q m 1 (gD_any hD) ) (cwV 1 hts gX12_undo_X12_fails rfl rfl rfl (by decide +kernel) ⟨Nat.le_of_ble_eq_true rfl, Nat.le_of_ble_eq_true rfl⟩) ⟨gP_blind, va_recv hK hP (ci := 9) (q0 := 0) rfl rfl, gP_ok hP hK⟩ rfl rfl hl.1 rfl (lv_room (Nat.le_of_ble_eq_true rfl)) dX12_undo_9 ⟨Nat.zero_le _, Nat.zero_le _⟩) hP (gD_va hD rfl) hS (fun r10 u11 H locs hw hP hS => ?_)
    have hP : va_P (dC, dI) vwCl (mw q cI u11) H := hP
    have hf := bd_eq hw hf
    exact e_mi C0 (hf.symm.trans hF) hP hS dX12_undo_12
noncomputable def pX12_mix (m : MS) (a1 : Int32) : MS := lt (msj m 1 ((31 * (m.2.1 1)) + a1.toInt64)) fun (m_1 : MS) => m_1
abbrev rX12_mix : Room := { frames := 0, cells := 0, slots := 0, locals := 0 }
set_option maxHeartbeats 4000000 in
set_option maxRecDepth 100000 in
theorem mX12_mix (l : Launch) (dC : Nat → ClassId) (dI : Nat → Nat → Nat) (cI cB cO cL : ClassId) (q : Nat → Nat) (m : MS) (a1 : Int32) (hI : gD (fun _ => True) (mAd q)) : Met l yX12_mix wsX12_mix rX12_mix (gP (dC, dI) (tYS cI cB cO cL) (mw q cI m) [.ref (q 0), .int a1]) (gQv (dC, dI) (fun m9 => mw q cI m9) (wA (mw q cI m)) (pX12_mix m a1)) 0 0 (wA (mw q cI m)) := by
  refine gMet (cc := cX12_mix) (maxL := 2) (ret := none) [(0, .ref (q 0)), (1, .int a1)] (by decide) rfl rfl rfl ?_
  intro p e s mi below meth c C0 hK hP ls hl
  obtain ⟨hx, hb, hr, hml, hown, hts, hlocks⟩ := id C0
  have hown : s.vm.findClass RX12 = some mi.cls := hown
  have hS : va_S (wA (mw q cI m)) s.heap s.heap [] := va_S.rf
  have hD : gD (wA (mw q cI m)) (mAd q) := gD_wA (ws := mw q cI m) hI
  have hP : va_P (dC, dI) vwCl (mw q cI m) s.heap := hP
  obtain ⟨F, hF⟩ : ∃ F, F = pX12_mix m a1 := ⟨_, rfl⟩
  have hf := hF
  have hin12 : ∀ w ∈ u_ws RX12 TX12 23, w ∈ wsX12_mix := by decide +kernel
  have cn288 := hts (.constantLong RX12 288 (31)) (by decide +kernel)
  have fl290 := hts (.fieldLink RX12 290 "ClickBenchModel" "h" "J") (by decide +kernel)
  refine lv_aload_n hx hb dX12_mix_0 rfl (lv_at hl 0 rfl) ?_
  refine lv_ldc2 (v := 31) hx hb hown cn288 dX12_mix_1 ?_
  refine lv_aload_n hx hb dX12_mix_4 rfl (lv_at hl 0 rfl) ?_
  refine va_get (D := (dC, dI)) (ci := 9) (v := .long (m.2.1 1)) (C := RX12) (T := TX12) (N := 23) hx hb hts hin12 hown hK hP 0 rfl rfl 22 (by decide) fl290 (fun _ h9 => h9) rfl dX12_mix_5 ?_
  refine lv_lmul hx hb dX12_mix_8 ?_
  refine lv_iload_n hx hb dX12_mix_9 rfl (lv_at hl 1 rfl) ?_
  refine lv_i2l hx hb dX12_mix_10 rfl ?_
  refine lv_ladd hx hb dX12_mix_11 ?_
  refine va_put (D := (dC, dI)) (ci := 9) (v := .long ((31 * (m.2.1 1)) + a1.toInt64)) (ty := .long) (C := RX12) (T := TX12) (N := 23) hx hb hts hin12 tyX12 tyX12_ok nmX12 hown hK hP (gD_va hD rfl) hS 0 rfl rfl 22 (by decide) fl290 (fun _ h9 => h9) rfl (by decide +kernel) rfl rfl (Nat.le_of_ble_eq_true rfl) dX12_mix_12 (fun H locs hP _ hS => ?_)
  obtain ⟨m_1, em_1⟩ : ∃ z9 : MS, z9 = msj m 1 ((31 * (m.2.1 1)) + a1.toInt64) := ⟨_, rfl⟩
  have hP : va_P (dC, dI) vwCl (mw q cI m_1) H := by rw [em_1]; exact hP
  have hf := lt_eq em_1 hf
  exact e_mv C0 (hf.symm.trans hF) hP hS dX12_mix_15
noncomputable def bX12_mixMicrophone_L35   (q_35 : Int32 → Int32 → Int32 → MS → MS) (v1_35 : Int32) (v2_35 : Int32) (v3_35 : Int32) (m_35 : MS) : MS := if 4 ≤ v3_35 then (lt (pX12_mix m_35 (pX12_blameOf m_35 v1_35 v2_35)) fun (u8 : MS) => u8) else (lt (pX12_mix m_35 (pX12_heardOf m_35 v1_35 v3_35)) fun (u11 : MS) => lt (v3_35 + 1) fun (x12 : Int32) => q_35 v1_35 v2_35 x12 u11)
noncomputable def pX12_mixMicrophone_L35   : Nat → Int32 → Int32 → Int32 → MS → MS
  | 0 => fun _ _ _ m_35 => (m_35)
  | n + 1 => bX12_mixMicrophone_L35   (pX12_mixMicrophone_L35   n)
def kbX12_mixMicrophone_L35   (Q_35 : Int32 → Int32 → Int32 → MS → Prop) (v1_35 : Int32) (v2_35 : Int32) (v3_35 : Int32) (m_35 : MS) : Prop := if 4 ≤ v3_35 then (kX12_blameOf m_35 v1_35 v2_35) else ((kX12_heardOf m_35 v1_35 v3_35) ∧ (lt (pX12_mix m_35 (pX12_heardOf m_35 v1_35 v3_35)) fun (u11 : MS) => lt (v3_35 + 1) fun (x12 : Int32) => Q_35 v1_35 v2_35 x12 u11))
noncomputable def kX12_mixMicrophone_L35   : Nat → Int32 → Int32 → Int32 → MS → Prop
  | 0 => fun _ _ _ _ => False
  | n + 1 => kbX12_mixMicrophone_L35   (kX12_mixMicrophone_L35   n)
noncomputable def bX12_mixMicrophone_L2   (q_2 : Int32 → Int32 → Int32 → MS → MS) (v1_2 : Int32) (v2_2 : Int32) (v3_2 : Int32) (m_2 : MS) : MS := if 4 ≤ v3_2 then (lt (pX12_mix m_2 (pX12_noteOf m_2 v1_2)) fun (u4 : MS) => pX12_mixMicrophone_L35 fu v1_2 v2_2 0 u4) else (lt (pX12_mix m_2 (pX12_partOf m_2 0 v1_2 v3_2)) fun (u15 : MS) => lt (v3_2 + 1) fun (x16 : Int32) => q_2 v1_2 v2_2 x16 u15)
noncomputable def pX12_mixMicrophone_L2   : Nat → Int32 → Int32 → Int32 → MS → MS
  | 0 => fun _ _ _ m_2 => (m_2)
  | n + 1 => bX12_mixMicrophone_L2   (pX12_mixMicrophone_L2   n)
def kbX12_mixMicrophone_L2   (Q_2 : Int32 → Int32 → Int32 → MS → Prop) (v1_2 : Int32) (v2_2 : Int32) (v3_2 : Int32) (m_2 : MS) : Prop := if 4 ≤ v3_2 then ((kX12_noteOf m_2 v1_2) ∧ (lt (pX12_mix m_2 (pX12_noteOf m_2 v1_2)) fun (u4 : MS) => kX12_mixMicrophone_L35 fu v1_2 v2_2 0 u4)) else ((kX12_partOf m_2 0 v1_2 v3_2) ∧ (lt (pX12_mix m_2 (pX12_partOf m_2 0 v1_2 v3_2)) fun (u15 : MS) => lt (v3_2 + 1) fun (x16 : Int32) => Q_2 v1_2 v2_2 x16 u15))
noncomputable def kX12_mixMicrophone_L2   : Nat → Int32 → Int32 → Int32 → MS → Prop
  | 0 => fun _ _ _ _ => False
  | n + 1 => kbX12_mixMicrophone_L2   (kX12_mixMicrophone_L2   n)
noncomputable def pX12_mixMicrophone (m : MS) (a1 : Int32) (a2 : Int32) : MS := pX12_mixMicrophone_L2 fu a1 a2 0 m
def kX12_mixMicrophone (m : MS) (a1 : Int32) (a2 : Int32) : Prop := kX12_mixMicrophone_L2 fu a1 a2 0 m
abbrev rX12_mixMicrophone : Room := { frames := 4, cells := 0, slots := 0, locals := 95 }
set_option maxHeartbeats 4000000 in
set_option maxRecDepth 100000 in
theorem mX12_mixMicrophone (l : Launch) (dC : Nat → ClassId) (dI : Nat → Nat → Nat) (cI cB cO cL : ClassId) (q : Nat → Nat) (m : MS) (a1 : Int32) (a2 : Int32) (hI : gD (fun _ => True) (mAd q)) (hok : kX12_mixMicrophone m a1 a2) : Met l yX12_mixMicrophone wsX12_mixMicrophone rX12_mixMicrophone (gP (dC, dI) (tYS cI cB cO cL) (mw q cI m) [.ref (q 0), .int a1, .int a2]) (gQv (dC, dI) (fun m9 => mw q cI m9) (wA (mw q cI m)) (pX12_mixMicrophone m a1 a2)) 0 0 (wA (mw q cI m)) := by
  refine gMet (cc := cX12_mixMicrophone) (maxL := 4) (ret := none) [(0, .ref (q 0)), (1, .int a1), (2, .int a2)] (by decide) rfl rfl rfl ?_
  intro p e s mi below meth c C0 hK hP ls hl
  obtain ⟨hx, hb, hr, hml, hown, hts, hlocks⟩ := id C0
  have hown : s.vm.findClass RX12 = some mi.cls := hown
  have hS : va_S (wA (mw q cI m)) s.heap s.heap [] := va_S.rf
  have hD : gD (wA (mw q cI m)) (mAd q) := gD_wA (ws := mw q cI m) hI
  have hP : va_P (dC, dI) vwCl (mw q cI m) s.heap := hP
  obtain ⟨F, hF⟩ : ∃ F, F = pX12_mixMicrophone m a1 a2 := ⟨_, rfl⟩
  have hf := hF
  have J_35 : ∀ (n_35 : Nat) (v1_35 : Int32) (v2_35 : Int32) (v3_35 : Int32) (m_35 : MS) (H : Heap) (locs : List Loc), va_P (dC, dI) vwCl (mw q cI m_35) H → va_S (wA (mw q cI m)) s.heap H locs → ∀ ls : Array Slot, lv_has ls 4 [(0, .ref (q 0)), (1, .int v1_35), (2, .int v2_35), (3, .int v3_35)] → F = pX12_mixMicrophone_L35 n_35 v1_35 v2_35 v3_35 m_35 → kX12_mixMicrophone_L35 n_35 v1_35 v2_35 v3_35 m_35 → W p l e rX12_mixMicrophone s mi ([.ref (q 0), .int a1, .int a2] : List Value).toArray below meth c H locs 0 0 (MQ below (gQv (dC, dI) (fun m9 => mw q cI m9) (wA (mw q cI m)) (pX12_mixMicrophone m a1 a2)) ([.ref (q 0), .int a1, .int a2] : List Value).toArray s 0 0 (wA (mw q cI m))) (F0 mi 35 ls []) := by
    intro n_35
    induction n_35 with
    | zero =>
      intro v1_35 v2_35 v3_35 m_35 H locs hP hS ls hl hf hok
      exact absurd hok (fun h => h)
    | succ n_35 ih_35 =>
      intro v1_35 v2_35 v3_35 m_35 H locs hP hS ls hl hf hok
      have hf : F = bX12_mixMicrophone_L35 (pX12_mixMicrophone_L35 n_35) v1_35 v2_35 v3_35 m_35 := hf
      have hok : kbX12_mixMicrophone_L35 (kX12_mixMicrophone_L35 n_35) v1_35 v2_35 v3_35 m_35 := hok
      refine lv_iload_n hx hb dX12_mixMicrophone_35 rfl (lv_at hl 3 rfl) ?_
      refine lv_iconst (v := 4) hx hb dX12_mixMicrophone_36 (by decide) ?_
      refine lv_icmp_ge (tgt := 56) hx hb dX12_mixMicrophone_37 (by decide) (fun c5 => ?_) (fun c5 => ?_)
      · have hf := it_eq c5 hf
        have hok := it_ok c5 hok
        refine lv_aload_n hx hb dX12_mixMicrophone_56 rfl (lv_at hl 0 rfl) ?_
        refine lv_aload_n hx hb dX12_mixMicrophone_57 rfl (lv_at hl 0 rfl) ?_
        refine lv_iload_n hx hb dX12_mixMicrophone_58 rfl (lv_at hl 1 rfl) ?_
        refine lv_iload_n hx hb dX12_mixMicrophone_59 rfl (lv_at hl 2 rfl) ?_
        have h6 : kX12_blameOf m_35 v1_35 v2_35 := hok
        refine gro_i (va_runV (As := [.int v1_35, .int v2_35]) (rest := [.ref (q 0)]) ⟨hx, hb, hml, hown, hts⟩ (mX12_blameOf l dC dI cI cB cO cL q m_35 v1_35 v2_35  h6) (cwV 2 hts gX12_mixMicrophone_X12_blameOf rfl rfl rfl (by decide +kernel) ⟨Nat.le_of_ble_eq_true rfl, Nat.le_of_ble_eq_true rfl⟩) ⟨gP_blind, va_recv hK hP (ci := 9) (q0 := 0) rfl rfl, gP_ok hP hK⟩ rfl rfl hl.1 rfl (lv_room (Nat.le_of_ble_eq_true rfl)) dX12_mixMicrophone_60 ⟨Nat.zero_le _, Nat.zero_le _⟩) ?_
        refine gms_v (va_runV (As := [.int (pX12_blameOf m_35 v1_35 v2_35)]) (rest := []) ⟨hx, hb, hml, hown, hts⟩ (mX12_mix l dC dI cI cB cO cL q m_35 (pX12_blameOf m_35 v1_35 v2_35) (gD_any hD) ) (cwV 1 hts gX12_mixMicrophone_X12_mix rfl rfl rfl (by decide +kernel) ⟨Nat.le_of_ble_eq_true rfl, Nat.le_of_ble_eq_true rfl⟩) ⟨gP_blind, va_recv hK hP (ci := 9) (q0 := 0) rfl rfl, gP_ok hP hK⟩ rfl rfl hl.1 rfl (lv_room (Nat.le_of_ble_eq_true rfl)) dX12_mixMicrophone_63 ⟨Nat.zero_le _, Nat.zero_le _⟩) hP (gD_va hD rfl) hS (fun u8 H locs hw hP hS => ?_)
        have hP : va_P (dC, dI) vwCl (mw q cI u8) H := hP
        have hf := lt_eq hw hf
        exact e_mv C0 (hf.symm.trans hF) hP hS dX12_mixMicrophone_66
      · have hf := ie_eq c5 hf
        have hok := ie_ok c5 hok
        refine lv_aload_n hx hb dX12_mixMicrophone_40 rfl (lv_at hl 0 rfl) ?_
        refine lv_aload_n hx hb dX12_mixMicrophone_41 rfl (lv_at hl 0 rfl) ?_
        refine lv_iload_n hx hb dX12_mixMicrophone_42 rfl (lv_at hl 1 rfl) ?_
        refine lv_iload_n hx hb dX12_mixMicrophone_43 rfl (lv_at hl 3 rfl) ?_
        obtain ⟨h9, hok⟩ := hok
        refine gro_i (va_runV (As := [.int v1_35, .int v3_35]) (rest := [.ref (q 0)]) ⟨hx, hb, hml, hown, hts⟩ (mX12_heardOf l dC dI cI cB cO cL q m_35 v1_35 v3_35  h9) (cwV 2 hts gX12_mixMicrophone_X12_heardOf rfl rfl rfl (by decide +kernel) ⟨Nat.le_of_ble_eq_true rfl, Nat.le_of_ble_eq_true rfl⟩) ⟨gP_blind, va_recv hK hP (ci := 9) (q0 := 0) rfl rfl, gP_ok hP hK⟩ rfl rfl hl.1 rfl (lv_room (Nat.le_of_ble_eq_true rfl)) dX12_mixMicrophone_44 ⟨Nat.zero_le _, Nat.zero_le _⟩) ?_
        refine gms_v (va_runV (As := [.int (pX12_heardOf m_35 v1_35 v3_35)]) (rest := []) ⟨hx, hb, hml, hown, hts⟩ (mX12_mix l dC dI cI cB cO cL q m_35 (pX12_heardOf m_35 v1_35 v3_35) (gD_any hD) ) (cwV 1 hts gX12_mixMicrophone_X12_mix rfl rfl rfl (by decide +kernel) ⟨Nat.le_of_ble_eq_true rfl, Nat.le_of_ble_eq_true rfl⟩) ⟨gP_blind, va_recv hK hP (ci := 9) (q0 := 0) rfl rfl, gP_ok hP hK⟩ rfl rfl hl.1 rfl (lv_room (Nat.le_of_ble_eq_true rfl)) dX12_mixMicrophone_47 ⟨Nat.zero_le _, Nat.zero_le _⟩) hP (gD_va hD rfl) hS (fun u11 H locs hw hP hS => ?_)
        have hP : va_P (dC, dI) vwCl (mw q cI u11) H := hP
        have hf := lt_eq hw hf
        have hok := lt_ok hw hok
        obtain ⟨x12, ex12⟩ : ∃ y : Int32, y = v3_35 + 1 := ⟨_, rfl⟩
        refine lv_iinc (v := x12) (lv' := [(3, .int x12), (0, .ref (q 0)), (1, .int v1_35), (2, .int v2_35)]) hx hb dX12_mixMicrophone_50 hl (k := 3) rfl (by rw [ex12]; rfl) (by decide) rfl (fun ls hl => ?_)
        have hf := lt_eq ex12 hf
        have hok := lt_ok ex12 hok
        refine lv_goto (tgt := 35) hx hb dX12_mixMicrophone_53 (by decide) ?_
        exact ih_35 v1_35 v2_35 x12 u11 _ _ hP hS _ (lv_sub hl [1, 2, 3, 0] rfl) hf hok
  have J_2 : ∀ (n_2 : Nat) (v1_2 : Int32) (v2_2 : Int32) (v3_2 : Int32) (m_2 : MS) (H : Heap) (locs : List Loc), va_P (dC, dI) vwCl (mw q cI m_2) H → va_S (wA (mw q cI m)) s.heap H locs → ∀ ls : Array Slot, lv_has ls 4 [(0, .ref (q 0)), (1, .int v1_2), (2, .int v2_2), (3, .int v3_2)] → F = pX12_mixMicrophone_L2 n_2 v1_2 v2_2 v3_2 m_2 → kX12_mixMicrophone_L2 n_2 v1_2 v2_2 v3_2 m_2 → W p l e rX12_mixMicrophone s mi ([.ref (q 0), .int a1, .int a2] : List Value).toArray below meth c H locs 0 0 (MQ below (gQv (dC, dI) (fun m9 => mw q cI m9) (wA (mw q cI m)) (pX12_mixMicrophone m a1 a2)) ([.ref (q 0), .int a1, .int a2] : List Value).toArray s 0 0 (wA (mw q cI m))) (F0 mi 2 ls []) := by
    intro n_2
    induction n_2 with
    | zero =>
      intro v1_2 v2_2 v3_2 m_2 H locs hP hS ls hl hf hok
      exact absurd hok (fun h => h)
    | succ n_2 ih_2 =>
      intro v1_2 v2_2 v3_2 m_2 H locs hP hS ls hl hf hok
      have hf : F = bX12_mixMicrophone_L2 (pX12_mixMicrophone_L2 n_2) v1_2 v2_2 v3_2 m_2 := hf
      have hok : kbX12_mixMicrophone_L2 (kX12_mixMicrophone_L2 n_2) v1_2 v2_2 v3_2 m_2 := hok
      refine lv_iload_n hx hb dX12_mixMicrophone_2 rfl (lv_at hl 3 rfl) ?_
      refine lv_iconst (v := 4) hx hb dX12_mixMicrophone_3 (by decide) ?_
      refine lv_icmp_ge (tgt := 24) hx hb dX12_mixMicrophone_4 (by decide) (fun c1 => ?_) (fun c1 => ?_)
      · have hf := it_eq c1 hf
        have hok := it_ok c1 hok
        refine lv_aload_n hx hb dX12_mixMicrophone_24 rfl (lv_at hl 0 rfl) ?_
        refine lv_aload_n hx hb dX12_mixMicrophone_25 rfl (lv_at hl 0 rfl) ?_
        refine lv_iload_n hx hb dX12_mixMicrophone_26 rfl (lv_at hl 1 rfl) ?_
        obtain ⟨h2, hok⟩ := hok
        refine gro_i (va_runV (As := [.int v1_2]) (rest := [.ref (q 0)]) ⟨hx, hb, hml, hown, hts⟩ (mX12_noteOf l dC dI cI cB cO cL q m_2 v1_2  h2) (cwV 1 hts gX12_mixMicrophone_X12_noteOf rfl rfl rfl (by decide +kernel) ⟨Nat.le_of_ble_eq_true rfl, Nat.le_of_ble_eq_true rfl⟩) ⟨gP_blind, va_recv hK hP (ci := 9) (q0 := 0) rfl rfl, gP_ok hP hK⟩ rfl rfl hl.1 rfl (lv_room (Nat.le_of_ble_eq_true rfl)) dX12_mixMicrophone_27 ⟨Nat.zero_le _, Nat.zero_le _⟩) ?_
        refine gms_v (va_runV (As := [.int (pX12_noteOf m_2 v1_2)]) (rest := []) ⟨hx, hb, hml, hown, hts⟩ (mX12_mix l dC dI cI cB cO cL q m_2 (pX12_noteOf m_2 v1_2) (gD_any hD) ) (cwV 1 hts gX12_mixMicrophone_X12_mix rfl rfl rfl (by decide +kernel) ⟨Nat.le_of_ble_eq_true rfl, Nat.le_of_ble_eq_true rfl⟩) ⟨gP_blind, va_recv hK hP (ci := 9) (q0 := 0) rfl rfl, gP_ok hP hK⟩ rfl rfl hl.1 rfl (lv_room (Nat.le_of_ble_eq_true rfl)) dX12_mixMicrophone_30 ⟨Nat.zero_le _, Nat.zero_le _⟩) hP (gD_va hD rfl) hS (fun u4 H locs hw hP hS => ?_)
        have hP : va_P (dC, dI) vwCl (mw q cI u4) H := hP
        have hf := lt_eq hw hf
        have hok := lt_ok hw hok
        refine lv_iconst (v := 0) hx hb dX12_mixMicrophone_33 (by decide) ?_
        refine lv_istore_n (lv' := [(3, .int 0), (0, .ref (q 0)), (1, .int v1_2), (2, .int v2_2)]) hx hb dX12_mixMicrophone_34 rfl hl (by decide) rfl (fun ls hl => ?_)
        exact J_35 fu v1_2 v2_2 0 u4 _ _ hP hS _ (lv_sub hl [1, 2, 3, 0] rfl) hf hok
      · have hf := ie_eq c1 hf
        have hok := ie_ok c1 hok
        refine lv_aload_n hx hb dX12_mixMicrophone_7 rfl (lv_at hl 0 rfl) ?_
        refine lv_aload_n hx hb dX12_mixMicrophone_8 rfl (lv_at hl 0 rfl) ?_
        refine lv_iconst (v := 0) hx hb dX12_mixMicrophone_9 (by decide) ?_
        refine lv_iload_n hx hb dX12_mixMicrophone_10 rfl (lv_at hl 1 rfl) ?_
        refine lv_iload_n hx hb dX12_mixMicrophone_11 rfl (lv_at hl 3 rfl) ?_
        obtain ⟨h13, hok⟩ := hok
        refine gro_i (va_runV (As := [.int 0, .int v1_2, .int v3_2]) (rest := [.ref (q 0)]) ⟨hx, hb, hml, hown, hts⟩ (mX12_partOf l dC dI cI cB cO cL q m_2 0 v1_2 v3_2  h13) (cwV 3 hts gX12_mixMicrophone_X12_partOf rfl rfl rfl (by decide +kernel) ⟨Nat.le_of_ble_eq_true rfl, Nat.le_of_ble_eq_true rfl⟩) ⟨gP_blind, va_recv hK hP (ci := 9) (q0 := 0) rfl rfl, gP_ok hP hK⟩ rfl rfl hl.1 rfl (lv_room (Nat.le_of_ble_eq_true rfl)) dX12_mixMicrophone_12 ⟨Nat.zero_le _, Nat.zero_le _⟩) ?_
        refine gms_v (va_runV (As := [.int (pX12_partOf m_2 0 v1_2 v3_2)]) (rest := []) ⟨hx, hb, hml, hown, hts⟩ (mX12_mix l dC dI cI cB cO cL q m_2 (pX12_partOf m_2 0 v1_2 v3_2) (gD_any hD) ) (cwV 1 hts gX12_mixMicrophone_X12_mix rfl rfl rfl (by decide +kernel) ⟨Nat.le_of_ble_eq_true rfl, Nat.le_of_ble_eq_true rfl⟩) ⟨gP_blind, va_recv hK hP (ci := 9) (q0 := 0) rfl rfl, gP_ok hP hK⟩ rfl rfl hl.1 rfl (lv_room (Nat.le_of_ble_eq_true rfl)) dX12_mixMicrophone_15 ⟨Nat.zero_le _, Nat.zero_le _⟩) hP (gD_va hD rfl) hS (fun u15 H locs hw hP hS => ?_)
        have hP : va_P (dC, dI) vwCl (mw q cI u15) H := hP
        have hf := lt_eq hw hf
        have hok := lt_ok hw hok
        obtain ⟨x16, ex16⟩ : ∃ y : Int32, y = v3_2 + 1 := ⟨_, rfl⟩
        refine lv_iinc (v := x16) (lv' := [(3, .int x16), (0, .ref (q 0)), (1, .int v1_2), (2, .int v2_2)]) hx hb dX12_mixMicrophone_18 hl (k := 3) rfl (by rw [ex16]; rfl) (by decide) rfl (fun ls hl => ?_)
        have hf := lt_eq ex16 hf
        have hok := lt_ok ex16 hok
        refine lv_goto (tgt := 2) hx hb dX12_mixMicrophone_21 (by decide) ?_
        exact ih_2 v1_2 v2_2 x16 u15 _ _ hP hS _ (lv_sub hl [1, 2, 3, 0] rfl) hf hok
  refine lv_iconst (v := 0) hx hb dX12_mixMicrophone_0 (by decide) ?_
  refine lv_istore_n (lv' := [(3, .int 0), (0, .ref (q 0)), (1, .int a1), (2, .int a2)]) hx hb dX12_mixMicrophone_1 rfl hl (by decide) rfl (fun ls hl => ?_)
  exact J_2 fu a1 a2 0 m _ _ hP hS _ (lv_sub hl [1, 2, 3, 0] rfl) hf hok
noncomputable def bX12_digest_L202   (q_202 : Int32 → MS → (Int64 × MS)) (v2_202 : Int32) (m_202 : MS) : Int64 × MS := if (((m_202.2.2 0) 0) * ((m_202.2.2 0) 1)) ≤ v2_202 then ((m_202.2.1 1, m_202)) else (lt (pX12_mix m_202 ((m_202.2.2 9) v2_202.toNatClampNeg)) fun (u24 : MS) => lt (pX12_mix u24 ((u24.2.2 10) v2_202.toNatClampNeg)) fun (u26 : MS) => lt (v2_202 + 1) fun (x27 : Int32) => q_202 x27 u26)
noncomputable def pX12_digest_L202   : Nat → Int32 → MS → (Int64 × MS)
  | 0 => fun _ m_202 => (0, m_202)
  | n + 1 => bX12_digest_L202   (pX12_digest_L202   n)
def kbX12_digest_L202   (Q_202 : Int32 → MS → Prop) (v2_202 : Int32) (m_202 : MS) : Prop := if (((m_202.2.2 0) 0) * ((m_202.2.2 0) 1)) ≤ v2_202 then (True) else ((vp_in v2_202 400) ∧ (lt (pX12_mix m_202 ((m_202.2.2 9) v2_202.toNatClampNeg)) fun (u24 : MS) => (vp_in v2_202 400) ∧ (lt (pX12_mix u24 ((u24.2.2 10) v2_202.toNatClampNeg)) fun (u26 : MS) => lt (v2_202 + 1) fun (x27 : Int32) => Q_202 x27 u26)))
noncomputable def kX12_digest_L202   : Nat → Int32 → MS → Prop
  | 0 => fun _ _ => False
  | n + 1 => kbX12_digest_L202   (kX12_digest_L202   n)
noncomputable def bX12_digest_L163   (q_163 : Int32 → Int32 → MS → (Int64 × MS)) (v1_163 : Int32) (v2_163 : Int32) (m_163 : MS) : Int64 × MS := if 7 ≤ v2_163 then (lt (pX12_mix m_163 v1_163) fun (u18 : MS) => lt (pX12_mix u18 (pX12_suspectBy u18 v1_163)) fun (u21 : MS) => pX12_digest_L202 fu 0 u21) else (lt (pX12_mix m_163 (pX12_partOf m_163 3 v2_163 0)) fun (u32 : MS) => lt (v2_163 + 1) fun (x33 : Int32) => q_163 v1_163 x33 u32)
noncomputable def pX12_digest_L163   : Nat → Int32 → Int32 → MS → (Int64 × MS)
  | 0 => fun _ _ m_163 => (0, m_163)
  | n + 1 => bX12_digest_L163   (pX12_digest_L163   n)
def kbX12_digest_L163   (Q_163 : Int32 → Int32 → MS → Prop) (v1_163 : Int32) (v2_163 : Int32) (m_163 : MS) : Prop := if 7 ≤ v2_163 then (lt (pX12_mix m_163 v1_163) fun (u18 : MS) => (kX12_suspectBy u18 v1_163) ∧ (lt (pX12_mix u18 (pX12_suspectBy u18 v1_163)) fun (u21 : MS) => kX12_digest_L202 fu 0 u21)) else ((kX12_partOf m_163 3 v2_163 0) ∧ (lt (pX12_mix m_163 (pX12_partOf m_163 3 v2_163 0)) fun (u32 : MS) => lt (v2_163 + 1) fun (x33 : Int32) => Q_163 v1_163 x33 u32))
noncomputable def kX12_digest_L163   : Nat → Int32 → Int32 → MS → Prop
  | 0 => fun _ _ _ => False
  | n + 1 => kbX12_digest_L163   (kX12_digest_L163   n)
noncomputable def bX12_digest_L128   (q_128 : Int32 → Int32 → MS → (Int64 × MS)) (v1_128 : Int32) (v2_128 : Int32) (m_128 : MS) : Int64 × MS := if (4 * ((m_128.2.2 0) 4)) ≤ v2_128 then (pX12_digest_L163 fu v1_128 0 m_128) else (lt (pX12_mix m_128 (pX12_partOf m_128 2 (v2_128 / 4) (v2_128 - v2_128 / 4 * 4))) fun (u36 : MS) => lt (v2_128 + 1) fun (x37 : Int32) => q_128 v1_128 x37 u36)
noncomputable def pX12_digest_L128   : Nat → Int32 → Int32 → MS → (Int64 × MS)
  | 0 => fun _ _ m_128 => (0, m_128)
  | n + 1 => bX12_digest_L128   (pX12_digest_L128   n)
def kbX12_digest_L128   (Q_128 : Int32 → Int32 → MS → Prop) (v1_128 : Int32) (v2_128 : Int32) (m_128 : MS) : Prop := if (4 * ((m_128.2.2 0) 4)) ≤ v2_128 then (kX12_digest_L163 fu v1_128 0 m_128) else ((kX12_partOf m_128 2 (v2_128 / 4) (v2_128 - v2_128 / 4 * 4)) ∧ (lt (pX12_mix m_128 (pX12_partOf m_128 2 (v2_128 / 4) (v2_128 - v2_128 / 4 * 4))) fun (u36 : MS) => lt (v2_128 + 1) fun (x37 : Int32) => Q_128 v1_128 x37 u36))
noncomputable def kX12_digest_L128   : Nat → Int32 → Int32 → MS → Prop
  | 0 => fun _ _ _ => False
  | n + 1 => kbX12_digest_L128   (kX12_digest_L128   n)
noncomputable def bX12_digest_L93   (q_93 : Int32 → Int32 → MS → (Int64 × MS)) (v1_93 : Int32) (v2_93 : Int32) (m_93 : MS) : Int64 × MS := if (3 * ((m_93.2.2 0) 3)) ≤ v2_93 then (pX12_digest_L128 fu v1_93 0 m_93) else (lt (pX12_mix m_93 (pX12_partOf m_93 1 (v2_93 / 3) (v2_93 - v2_93 / 3 * 3))) fun (u40 : MS) => lt (v2_93 + 1) fun (x41 : Int32) => q_93 v1_93 x41 u40)
noncomputable def pX12_digest_L93   : Nat → Int32 → Int32 → MS → (Int64 × MS)
  | 0 => fun _ _ m_93 => (0, m_93)
  | n + 1 => bX12_digest_L93   (pX12_digest_L93   n)
def kbX12_digest_L93   (Q_93 : Int32 → Int32 → MS → Prop) (v1_93 : Int32) (v2_93 : Int32) (m_93 : MS) : Prop := if (3 * ((m_93.2.2 0) 3)) ≤ v2_93 then (kX12_digest_L128 fu v1_93 0 m_93) else ((kX12_partOf m_93 1 (v2_93 / 3) (v2_93 - v2_93 / 3 * 3)) ∧ (lt (pX12_mix m_93 (pX12_partOf m_93 1 (v2_93 / 3) (v2_93 - v2_93 / 3 * 3))) fun (u40 : MS) => lt (v2_93 + 1) fun (x41 : Int32) => Q_93 v1_93 x41 u40))
noncomputable def kX12_digest_L93   : Nat → Int32 → Int32 → MS → Prop
  | 0 => fun _ _ _ => False
  | n + 1 => kbX12_digest_L93   (kX12_digest_L93   n)
noncomputable def bX12_digest_L69   (q_69 : Int32 → Int32 → MS → (Int64 × MS)) (v1_69 : Int32) (v2_69 : Int32) (m_69 : MS) : Int64 × MS := if ((m_69.2.2 0) 2) ≤ v2_69 then (pX12_digest_L93 fu v1_69 0 m_69) else (lt (pX12_mixMicrophone m_69 v2_69 v1_69) fun (u44 : MS) => lt (v2_69 + 1) fun (x45 : Int32) => q_69 v1_69 x45 u44)
noncomputable def pX12_digest_L69   : Nat → Int32 → Int32 → MS → (Int64 × MS)
  | 0 => fun _ _ m_69 => (0, m_69)
  | n + 1 => bX12_digest_L69   (pX12_digest_L69   n)
def kbX12_digest_L69   (Q_69 : Int32 → Int32 → MS → Prop) (v1_69 : Int32) (v2_69 : Int32) (m_69 : MS) : Prop := if ((m_69.2.2 0) 2) ≤ v2_69 then (kX12_digest_L93 fu v1_69 0 m_69) else ((kX12_mixMicrophone m_69 v2_69 v1_69) ∧ (lt (pX12_mixMicrophone m_69 v2_69 v1_69) fun (u44 : MS) => lt (v2_69 + 1) fun (x45 : Int32) => Q_69 v1_69 x45 u44))
noncomputable def kX12_digest_L69   : Nat → Int32 → Int32 → MS → Prop
  | 0 => fun _ _ _ => False
  | n + 1 => kbX12_digest_L69   (kX12_digest_L69   n)
noncomputable def bX12_digest_L45   (q_45 : Int32 → Int32 → MS → (Int64 × MS)) (v1_45 : Int32) (v2_45 : Int32) (m_45 : MS) : Int64 × MS := if 11 ≤ v2_45 then (pX12_digest_L69 fu v1_45 0 m_45) else (lt (pX12_mix m_45 (pX12_wholeOf m_45 v2_45 v1_45)) fun (u48 : MS) => lt (v2_45 + 1) fun (x49 : Int32) => q_45 v1_45 x49 u48)
noncomputable def pX12_digest_L45   : Nat → Int32 → Int32 → MS → (Int64 × MS)
  | 0 => fun _ _ m_45 => (0, m_45)
  | n + 1 => bX12_digest_L45   (pX12_digest_L45   n)
def kbX12_digest_L45   (Q_45 : Int32 → Int32 → MS → Prop) (v1_45 : Int32) (v2_45 : Int32) (m_45 : MS) : Prop := if 11 ≤ v2_45 then (kX12_digest_L69 fu v1_45 0 m_45) else ((kX12_wholeOf m_45 v2_45 v1_45) ∧ (lt (pX12_mix m_45 (pX12_wholeOf m_45 v2_45 v1_45)) fun (u48 : MS) => lt (v2_45 + 1) fun (x49 : Int32) => Q_45 v1_45 x49 u48))
noncomputable def kX12_digest_L45   : Nat → Int32 → Int32 → MS → Prop
  | 0 => fun _ _ _ => False
  | n + 1 => kbX12_digest_L45   (kX12_digest_L45   n)
noncomputable def pX12_digest (m : MS) : Int64 × MS := lt (msi m 3 0) fun (m_1 : MS) => bd (pX12_finds m_1 (-1000000000)) fun (r3 : Int32) (u4 : MS) => lt (msj u4 1 18879) fun (m_5 : MS) => lt (pX12_mix m_5 (m_5.1 0)) fun (u7 : MS) => lt (pX12_mix u7 (u7.1 1)) fun (u9 : MS) => lt (pX12_mix u9 (u9.1 2)) fun (u11 : MS) => pX12_digest_L45 fu r3 0 u11
def kX12_digest (m : MS) : Prop := lt (msi m 3 0) fun (m_1 : MS) => (kX12_finds m_1 (-1000000000)) ∧ (bd (pX12_finds m_1 (-1000000000)) fun (r3 : Int32) (u4 : MS) => lt (msj u4 1 18879) fun (m_5 : MS) => lt (pX12_mix m_5 (m_5.1 0)) fun (u7 : MS) => lt (pX12_mix u7 (u7.1 1)) fun (u9 : MS) => lt (pX12_mix u9 (u9.1 2)) fun (u11 : MS) => kX12_digest_L45 fu r3 0 u11)
abbrev rX12_digest : Room := { frames := 5, cells := 0, slots := 0, locals := 120 }
set_option maxHeartbeats 4000000 in
set_option maxRecDepth 100000 in
theorem mX12_digest (l : Launch) (dC : Nat → ClassId) (dI : Nat → Nat → Nat) (cI cB cO cL : ClassId) (q : Nat → Nat) (m : MS) (hI : gD (fun _ => True) (mAd q)) (hok : kX12_digest m) : Met l yX12_digest wsX12_digest rX12_digest (gP (dC, dI) (tYS cI cB cO cL) (mw q cI m) [.ref (q 0)]) (gQl (dC, dI) (fun m9 => mw q cI m9) (wA (mw q cI m)) (pX12_digest m)) 0 0 (wA (mw q cI m)) := by
  refine gMet (cc := cX12_digest) (maxL := 3) (ret := some .long) [(0, .ref (q 0))] (by decide) rfl rfl rfl ?_
  intro p e s mi below meth c C0 hK hP ls hl
  obtain ⟨hx, hb, hr, hml, hown, hts, hlocks⟩ := id C0
  have hown : s.vm.findClass RX12 = some mi.cls := hown
  have hS : va_S (wA (mw q cI m)) s.heap s.heap [] := va_S.rf
  have hD : gD (wA (mw q cI m)) (mAd q) := gD_wA (ws := mw q cI m) hI
  have hP : va_P (dC, dI) vwCl (mw q cI m) s.heap := hP
  obtain ⟨F, hF⟩ : ∃ F, F = pX12_digest m := ⟨_, rfl⟩
  have hf := hF
  have hin12 : ∀ w ∈ u_ws RX12 TX12 23, w ∈ wsX12_digest := by decide +kernel
  have fl49 := hts (.fieldLink RX12 49 "ClickBenchModel" "thrown" "I") (by decide +kernel)
  have cn71 := hts (.constant RX12 71 (-1000000000)) (by decide +kernel)
  have cn297 := hts (.constantLong RX12 297 (18879)) (by decide +kernel)
  have fl290 := hts (.fieldLink RX12 290 "ClickBenchModel" "h" "J") (by decide +kernel)
  have fl53 := hts (.fieldLink RX12 53 "ClickBenchModel" "pasts" "I") (by decide +kernel)
  have fl235 := hts (.fieldLink RX12 235 "ClickBenchModel" "typed" "I") (by decide +kernel)
  have fl282 := hts (.fieldLink RX12 282 "ClickBenchModel" "stopped" "I") (by decide +kernel)
  have fl7 := hts (.fieldLink RX12 7 "ClickBenchModel" "s" "[I") (by decide +kernel)
  have fl37 := hts (.fieldLink RX12 37 "ClickBenchModel" "voteMany" "[I") (by decide +kernel)
  have fl40 := hts (.fieldLink RX12 40 "ClickBenchModel" "errors" "[I") (by decide +kernel)
  have J_202 : ∀ (n_202 : Nat) (v2_202 : Int32) (m_202 : MS) (H : Heap) (locs : List Loc), va_P (dC, dI) vwCl (mw q cI m_202) H → va_S (wA (mw q cI m)) s.heap H locs → ∀ ls : Array Slot, lv_has ls 3 [(0, .ref (q 0)), (2, .int v2_202)] → F = pX12_digest_L202 n_202 v2_202 m_202 → kX12_digest_L202 n_202 v2_202 m_202 → W p l e rX12_digest s mi ([.ref (q 0)] : List Value).toArray below meth c H locs 0 0 (MQ below (gQl (dC, dI) (fun m9 => mw q cI m9) (wA (mw q cI m)) (pX12_digest m)) ([.ref (q 0)] : List Value).toArray s 0 0 (wA (mw q cI m))) (F0 mi 202 ls []) := by
    intro n_202
    induction n_202 with
    | zero =>
      intro v2_202 m_202 H locs hP hS ls hl hf hok
      exact absurd hok (fun h => h)
    | succ n_202 ih_202 =>
      intro v2_202 m_202 H locs hP hS ls hl hf hok
      have hf : F = bX12_digest_L202 (pX12_digest_L202 n_202) v2_202 m_202 := hf
      have hok : kbX12_digest_L202 (kX12_digest_L202 n_202) v2_202 m_202 := hok
      refine lv_iload_n hx hb dX12_digest_202 rfl (lv_at hl 1 rfl) ?_
      refine lv_aload_n hx hb dX12_digest_203 rfl (lv_at hl 0 rfl) ?_
      refine va_get (D := (dC, dI)) (ci := 9) (v := .ref (q 1)) (C := RX12) (T := TX12) (N := 23) hx hb hts hin12 hown hK hP 0 rfl rfl 0 (by decide) fl7 (fun _ h9 => h9) rfl dX12_digest_204 ?_
      refine lv_iconst (v := 0) hx hb dX12_digest_207 (by decide) ?_
      refine g_ialdK (D := (dC, dI)) (tys := (tYS cI cB cO cL)) (k := 0) hx hb hK hP 1 0 rfl rfl (by decide) (by decide) (by decide) dX12_digest_208 ?_
      refine lv_aload_n hx hb dX12_digest_209 rfl (lv_at hl 0 rfl) ?_
      refine va_get (D := (dC, dI)) (ci := 9) (v := .ref (q 1)) (C := RX12) (T := TX12) (N := 23) hx hb hts hin12 hown hK hP 0 rfl rfl 0 (by decide) fl7 (fun _ h9 => h9) rfl dX12_digest_210 ?_
      refine lv_iconst (v := 1) hx hb dX12_digest_213 (by decide) ?_
      refine g_ialdK (D := (dC, dI)) (tys := (tYS cI cB cO cL)) (k := 1) hx hb hK hP 1 0 rfl rfl (by decide) (by decide) (by decide) dX12_digest_214 ?_
      refine lv_imul hx hb dX12_digest_215 ?_
      refine lv_icmp_ge (tgt := 245) hx hb dX12_digest_216 (by decide) (fun c22 => ?_) (fun c22 => ?_)
      · have hf := it_eq c22 hf
        refine lv_aload_n hx hb dX12_digest_245 rfl (lv_at hl 0 rfl) ?_
        refine va_get (D := (dC, dI)) (ci := 9) (v := .long (m_202.2.1 1)) (C := RX12) (T := TX12) (N := 23) hx hb hts hin12 hown hK hP 0 rfl rfl 22 (by decide) fl290 (fun _ h9 => h9) rfl dX12_digest_246 ?_
        exact e_ml C0 (hf.symm.trans hF) hP hS dX12_digest_249
      · have hf := ie_eq c22 hf
        have hok := ie_ok c22 hok
        refine lv_aload_n hx hb dX12_digest_219 rfl (lv_at hl 0 rfl) ?_
        refine lv_aload_n hx hb dX12_digest_220 rfl (lv_at hl 0 rfl) ?_
        refine va_get (D := (dC, dI)) (ci := 9) (v := .ref (q 10)) (C := RX12) (T := TX12) (N := 23) hx hb hts hin12 hown hK hP 0 rfl rfl 15 (by decide) fl37 (fun _ h9 => h9) rfl dX12_digest_221 ?_
        refine lv_iload_n hx hb dX12_digest_224 rfl (lv_at hl 1 rfl) ?_
        obtain ⟨h29, hok⟩ := hok
        refine va_iald (D := (dC, dI)) (tys := (tYS cI cB cO cL)) hx hb hK hP 10 0 rfl rfl h29 dX12_digest_225 ?_
        refine gms_v (va_runV (As := [.int ((m_202.2.2 9) v2_202.toNatClampNeg)]) (rest := []) ⟨hx, hb, hml, hown, hts⟩ (mX12_mix l dC dI cI cB cO cL q m_202 ((m_202.2.2 9) v2_202.toNatClampNeg) (gD_any hD) ) (cwV 1 hts gX12_digest_X12_mix rfl rfl rfl (by decide +kernel) ⟨Nat.le_of_ble_eq_true rfl, Nat.le_of_ble_eq_true rfl⟩) ⟨gP_blind, va_recv hK hP (ci := 9) (q0 := 0) rfl rfl, gP_ok hP hK⟩ rfl rfl hl.1 rfl (lv_room (Nat.le_of_ble_eq_true rfl)) dX12_digest_226 ⟨Nat.zero_le _, Nat.zero_le _⟩) hP (gD_va hD rfl) hS (fun u24 H locs hw hP hS => ?_)
        have hP : va_P (dC, dI) vwCl (mw q cI u24) H := hP
        have hf := lt_eq hw hf
        have hok := lt_ok hw hok
        refine lv_aload_n hx hb dX12_digest_229 rfl (lv_at hl 0 rfl) ?_
        refine lv_aload_n hx hb dX12_digest_230 rfl (lv_at hl 0 rfl) ?_
        refine va_get (D := (dC, dI)) (ci := 9) (v := .ref (q 11)) (C := RX12) (T := TX12) (N := 23) hx hb hts hin12 hown hK hP 0 rfl rfl 16 (by decide) fl40 (fun _ h9 => h9) rfl dX12_digest_231 ?_
        refine lv_iload_n hx hb dX12_digest_234 rfl (lv_at hl 1 rfl) ?_
        obtain ⟨h28, hok⟩ := hok
        refine va_iald (D := (dC, dI)) (tys := (tYS cI cB cO cL)) hx hb hK hP 11 0 rfl rfl h28 dX12_digest_235 ?_
        refine gms_v (va_runV (As := [.int ((u24.2.2 10) v2_202.toNatClampNeg)]) (rest := []) ⟨hx, hb, hml, hown, hts⟩ (mX12_mix l dC dI cI cB cO cL q u24 ((u24.2.2 10) v2_202.toNatClampNeg) (gD_any hD) ) (cwV 1 hts gX12_digest_X12_mix rfl rfl rfl (by decide +kernel) ⟨Nat.le_of_ble_eq_true rfl, Nat.le_of_ble_eq_true rfl⟩) ⟨gP_blind, va_recv hK hP (ci := 9) (q0 := 0) rfl rfl, gP_ok hP hK⟩ rfl rfl hl.1 rfl (lv_room (Nat.le_of_ble_eq_true rfl)) dX12_digest_236 ⟨Nat.zero_le _, Nat.zero_le _⟩) hP (gD_va hD rfl) hS (fun u26 H locs hw hP hS => ?_)
        have hP : va_P (dC, dI) vwCl (mw q cI u26) H := hP
        have hf := lt_eq hw hf
        have hok := lt_ok hw hok
        obtain ⟨x27, ex27⟩ : ∃ y : Int32, y = v2_202 + 1 := ⟨_, rfl⟩
        refine lv_iinc (v := x27) (lv' := [(2, .int x27), (0, .ref (q 0))]) hx hb dX12_digest_239 hl (k := 1) rfl (by rw [ex27]; rfl) (by decide) rfl (fun ls hl => ?_)
        have hf := lt_eq ex27 hf
        have hok := lt_ok ex27 hok
        refine lv_goto (tgt := 202) hx hb dX12_digest_242 (by decide) ?_
        exact ih_202 x27 u26 _ _ hP hS _ (lv_sub hl [1, 0] rfl) hf hok
  have J_163 : ∀ (n_163 : Nat) (v1_163 : Int32) (v2_163 : Int32) (m_163 : MS) (H : Heap) (locs : List Loc), va_P (dC, dI) vwCl (mw q cI m_163) H → va_S (wA (mw q cI m)) s.heap H locs → ∀ ls : Array Slot, lv_has ls 3 [(0, .ref (q 0)), (1, .int v1_163), (2, .int v2_163)] → F = pX12_digest_L163 n_163 v1_163 v2_163 m_163 → kX12_digest_L163 n_163 v1_163 v2_163 m_163 → W p l e rX12_digest s mi ([.ref (q 0)] : List Value).toArray below meth c H locs 0 0 (MQ below (gQl (dC, dI) (fun m9 => mw q cI m9) (wA (mw q cI m)) (pX12_digest m)) ([.ref (q 0)] : List Value).toArray s 0 0 (wA (mw q cI m))) (F0 mi 163 ls []) := by
    intro n_163
    induction n_163 with
    | zero =>
      intro v1_163 v2_163 m_163 H locs hP hS ls hl hf hok
      exact absurd hok (fun h => h)
    | succ n_163 ih_163 =>
      intro v1_163 v2_163 m_163 H locs hP hS ls hl hf hok
      have hf : F = bX12_digest_L163 (pX12_digest_L163 n_163) v1_163 v2_163 m_163 := hf
      have hok : kbX12_digest_L163 (kX12_digest_L163 n_163) v1_163 v2_163 m_163 := hok
      refine lv_iload_n hx hb dX12_digest_163 rfl (lv_at hl 2 rfl) ?_
      refine lv_bipush (v := 7) hx hb dX12_digest_164 (by decide) ?_
      refine lv_icmp_ge (tgt := 186) hx hb dX12_digest_166 (by decide) (fun c16 => ?_) (fun c16 => ?_)
      · have hf := it_eq c16 hf
        have hok := it_ok c16 hok
        refine lv_aload_n hx hb dX12_digest_186 rfl (lv_at hl 0 rfl) ?_
        refine lv_iload_n hx hb dX12_digest_187 rfl (lv_at hl 1 rfl) ?_
        refine gms_v (va_runV (As := [.int v1_163]) (rest := []) ⟨hx, hb, hml, hown, hts⟩ (mX12_mix l dC dI cI cB cO cL q m_163 v1_163 (gD_any hD) ) (cwV 1 hts gX12_digest_X12_mix rfl rfl rfl (by decide +kernel) ⟨Nat.le_of_ble_eq_true rfl, Nat.le_of_ble_eq_true rfl⟩) ⟨gP_blind, va_recv hK hP (ci := 9) (q0 := 0) rfl rfl, gP_ok hP hK⟩ rfl rfl hl.1 rfl (lv_room (Nat.le_of_ble_eq_true rfl)) dX12_digest_188 ⟨Nat.zero_le _, Nat.zero_le _⟩) hP (gD_va hD rfl) hS (fun u18 H locs hw hP hS => ?_)
        have hP : va_P (dC, dI) vwCl (mw q cI u18) H := hP
        have hf := lt_eq hw hf
        have hok := lt_ok hw hok
        refine lv_aload_n hx hb dX12_digest_191 rfl (lv_at hl 0 rfl) ?_
        refine lv_aload_n hx hb dX12_digest_192 rfl (lv_at hl 0 rfl) ?_
        refine lv_iload_n hx hb dX12_digest_193 rfl (lv_at hl 1 rfl) ?_
        obtain ⟨h19, hok⟩ := hok
        refine gro_i (va_runV (As := [.int v1_163]) (rest := [.ref (q 0)]) ⟨hx, hb, hml, hown, hts⟩ (mX12_suspectBy l dC dI cI cB cO cL q u18 v1_163  h19) (cwV 1 hts gX12_digest_X12_suspectBy rfl rfl rfl (by decide +kernel) ⟨Nat.le_of_ble_eq_true rfl, Nat.le_of_ble_eq_true rfl⟩) ⟨gP_blind, va_recv hK hP (ci := 9) (q0 := 0) rfl rfl, gP_ok hP hK⟩ rfl rfl hl.1 rfl (lv_room (Nat.le_of_ble_eq_true rfl)) dX12_digest_194 ⟨Nat.zero_le _, Nat.zero_le _⟩) ?_
        refine gms_v (va_runV (As := [.int (pX12_suspectBy u18 v1_163)]) (rest := []) ⟨hx, hb, hml, hown, hts⟩ (mX12_mix l dC dI cI cB cO cL q u18 (pX12_suspectBy u18 v1_163) (gD_any hD) ) (cwV 1 hts gX12_digest_X12_mix rfl rfl rfl (by decide +kernel) ⟨Nat.le_of_ble_eq_true rfl, Nat.le_of_ble_eq_true rfl⟩) ⟨gP_blind, va_recv hK hP (ci := 9) (q0 := 0) rfl rfl, gP_ok hP hK⟩ rfl rfl hl.1 rfl (lv_room (Nat.le_of_ble_eq_true rfl)) dX12_digest_197 ⟨Nat.zero_le _, Nat.zero_le _⟩) hP (gD_va hD rfl) hS (fun u21 H locs hw hP hS => ?_)
        have hP : va_P (dC, dI) vwCl (mw q cI u21) H := hP
        have hf := lt_eq hw hf
        have hok := lt_ok hw hok
        refine lv_iconst (v := 0) hx hb dX12_digest_200 (by decide) ?_
        refine lv_istore_n (lv' := [(2, .int 0), (0, .ref (q 0)), (1, .int v1_163)]) hx hb dX12_digest_201 rfl hl (by decide) rfl (fun ls hl => ?_)
        exact J_202 fu 0 u21 _ _ hP hS _ (lv_sub hl [1, 0] rfl) hf hok
      · have hf := ie_eq c16 hf
        have hok := ie_ok c16 hok
        refine lv_aload_n hx hb dX12_digest_169 rfl (lv_at hl 0 rfl) ?_
        refine lv_aload_n hx hb dX12_digest_170 rfl (lv_at hl 0 rfl) ?_
        refine lv_iconst (v := 3) hx hb dX12_digest_171 (by decide) ?_
        refine lv_iload_n hx hb dX12_digest_172 rfl (lv_at hl 2 rfl) ?_
        refine lv_iconst (v := 0) hx hb dX12_digest_173 (by decide) ?_
        obtain ⟨h30, hok⟩ := hok
        refine gro_i (va_runV (As := [.int 3, .int v2_163, .int 0]) (rest := [.ref (q 0)]) ⟨hx, hb, hml, hown, hts⟩ (mX12_partOf l dC dI cI cB cO cL q m_163 3 v2_163 0  h30) (cwV 3 hts gX12_digest_X12_partOf rfl rfl rfl (by decide +kernel) ⟨Nat.le_of_ble_eq_true rfl, Nat.le_of_ble_eq_true rfl⟩) ⟨gP_blind, va_recv hK hP (ci := 9) (q0 := 0) rfl rfl, gP_ok hP hK⟩ rfl rfl hl.1 rfl (lv_room (Nat.le_of_ble_eq_true rfl)) dX12_digest_174 ⟨Nat.zero_le _, Nat.zero_le _⟩) ?_
        refine gms_v (va_runV (As := [.int (pX12_partOf m_163 3 v2_163 0)]) (rest := []) ⟨hx, hb, hml, hown, hts⟩ (mX12_mix l dC dI cI cB cO cL q m_163 (pX12_partOf m_163 3 v2_163 0) (gD_any hD) ) (cwV 1 hts gX12_digest_X12_mix rfl rfl rfl (by decide +kernel) ⟨Nat.le_of_ble_eq_true rfl, Nat.le_of_ble_eq_true rfl⟩) ⟨gP_blind, va_recv hK hP (ci := 9) (q0 := 0) rfl rfl, gP_ok hP hK⟩ rfl rfl hl.1 rfl (lv_room (Nat.le_of_ble_eq_true rfl)) dX12_digest_177 ⟨Nat.zero_le _, Nat.zero_le _⟩) hP (gD_va hD rfl) hS (fun u32 H locs hw hP hS => ?_)
        have hP : va_P (dC, dI) vwCl (mw q cI u32) H := hP
        have hf := lt_eq hw hf
        have hok := lt_ok hw hok
        obtain ⟨x33, ex33⟩ : ∃ y : Int32, y = v2_163 + 1 := ⟨_, rfl⟩
        refine lv_iinc (v := x33) (lv' := [(2, .int x33), (0, .ref (q 0)), (1, .int v1_163)]) hx hb dX12_digest_180 hl (k := 2) rfl (by rw [ex33]; rfl) (by decide) rfl (fun ls hl => ?_)
        have hf := lt_eq ex33 hf
        have hok := lt_ok ex33 hok
        refine lv_goto (tgt := 163) hx hb dX12_digest_183 (by decide) ?_
        exact ih_163 v1_163 x33 u32 _ _ hP hS _ (lv_sub hl [1, 2, 0] rfl) hf hok
  have J_128 : ∀ (n_128 : Nat) (v1_128 : Int32) (v2_128 : Int32) (m_128 : MS) (H : Heap) (locs : List Loc), va_P (dC, dI) vwCl (mw q cI m_128) H → va_S (wA (mw q cI m)) s.heap H locs → ∀ ls : Array Slot, lv_has ls 3 [(0, .ref (q 0)), (1, .int v1_128), (2, .int v2_128)] → F = pX12_digest_L128 n_128 v1_128 v2_128 m_128 → kX12_digest_L128 n_128 v1_128 v2_128 m_128 → W p l e rX12_digest s mi ([.ref (q 0)] : List Value).toArray below meth c H locs 0 0 (MQ below (gQl (dC, dI) (fun m9 => mw q cI m9) (wA (mw q cI m)) (pX12_digest m)) ([.ref (q 0)] : List Value).toArray s 0 0 (wA (mw q cI m))) (F0 mi 128 ls []) := by
    intro n_128
    induction n_128 with
    | zero =>
      intro v1_128 v2_128 m_128 H locs hP hS ls hl hf hok
      exact absurd hok (fun h => h)
    | succ n_128 ih_128 =>
      intro v1_128 v2_128 m_128 H locs hP hS ls hl hf hok
      have hf : F = bX12_digest_L128 (pX12_digest_L128 n_128) v1_128 v2_128 m_128 := hf
      have hok : kbX12_digest_L128 (kX12_digest_L128 n_128) v1_128 v2_128 m_128 := hok
      refine lv_iload_n hx hb dX12_digest_128 rfl (lv_at hl 2 rfl) ?_
      refine lv_iconst (v := 4) hx hb dX12_digest_129 (by decide) ?_
      refine lv_aload_n hx hb dX12_digest_130 rfl (lv_at hl 0 rfl) ?_
      refine va_get (D := (dC, dI)) (ci := 9) (v := .ref (q 1)) (C := RX12) (T := TX12) (N := 23) hx hb hts hin12 hown hK hP 0 rfl rfl 0 (by decide) fl7 (fun _ h9 => h9) rfl dX12_digest_131 ?_
      refine lv_iconst (v := 4) hx hb dX12_digest_134 (by decide) ?_
      refine g_ialdK (D := (dC, dI)) (tys := (tYS cI cB cO cL)) (k := 4) hx hb hK hP 1 0 rfl rfl (by decide) (by decide) (by decide) dX12_digest_135 ?_
      refine lv_imul hx hb dX12_digest_136 ?_
      refine lv_icmp_ge (tgt := 161) hx hb dX12_digest_137 (by decide) (fun c15 => ?_) (fun c15 => ?_)
      · have hf := it_eq c15 hf
        have hok := it_ok c15 hok
        refine lv_iconst (v := 0) hx hb dX12_digest_161 (by decide) ?_
        refine lv_istore_n (lv' := [(2, .int 0), (0, .ref (q 0)), (1, .int v1_128)]) hx hb dX12_digest_162 rfl hl (by decide) rfl (fun ls hl => ?_)
        exact J_163 fu v1_128 0 m_128 _ _ hP hS _ (lv_sub hl [1, 2, 0] rfl) hf hok
      · have hf := ie_eq c15 hf
        have hok := ie_ok c15 hok
        refine lv_aload_n hx hb dX12_digest_140 rfl (lv_at hl 0 rfl) ?_
        refine lv_aload_n hx hb dX12_digest_141 rfl (lv_at hl 0 rfl) ?_
        refine lv_iconst (v := 2) hx hb dX12_digest_142 (by decide) ?_
        refine lv_iload_n hx hb dX12_digest_143 rfl (lv_at hl 2 rfl) ?_
        refine lv_iconst (v := 4) hx hb dX12_digest_144 (by decide) ?_
        refine lv_idiv hx hb dX12_digest_145 (by decide) ?_
        refine lv_iload_n hx hb dX12_digest_146 rfl (lv_at hl 2 rfl) ?_
        refine lv_iconst (v := 4) hx hb dX12_digest_147 (by decide) ?_
        refine lv_irem hx hb dX12_digest_148 (by decide) ?_
        obtain ⟨h34, hok⟩ := hok
        refine gro_i (va_runV (As := [.int 2, .int (v2_128 / 4), .int (v2_128 - v2_128 / 4 * 4)]) (rest := [.ref (q 0)]) ⟨hx, hb, hml, hown, hts⟩ (mX12_partOf l dC dI cI cB cO cL q m_128 2 (v2_128 / 4) (v2_128 - v2_128 / 4 * 4)  h34) (cwV 3 hts gX12_digest_X12_partOf rfl rfl rfl (by decide +kernel) ⟨Nat.le_of_ble_eq_true rfl, Nat.le_of_ble_eq_true rfl⟩) ⟨gP_blind, va_recv hK hP (ci := 9) (q0 := 0) rfl rfl, gP_ok hP hK⟩ rfl rfl hl.1 rfl (lv_room (Nat.le_of_ble_eq_true rfl)) dX12_digest_149 ⟨Nat.zero_le _, Nat.zero_le _⟩) ?_
        refine gms_v (va_runV (As := [.int (pX12_partOf m_128 2 (v2_128 / 4) (v2_128 - v2_128 / 4 * 4))]) (rest := []) ⟨hx, hb, hml, hown, hts⟩ (mX12_mix l dC dI cI cB cO cL q m_128 (pX12_partOf m_128 2 (v2_128 / 4) (v2_128 - v2_128 / 4 * 4)) (gD_any hD) ) (cwV 1 hts gX12_digest_X12_mix rfl rfl rfl (by decide +kernel) ⟨Nat.le_of_ble_eq_true rfl, Nat.le_of_ble_eq_true rfl⟩) ⟨gP_blind, va_recv hK hP (ci := 9) (q0 := 0) rfl rfl, gP_ok hP hK⟩ rfl rfl hl.1 rfl (lv_room (Nat.le_of_ble_eq_true rfl)) dX12_digest_152 ⟨Nat.zero_le _, Nat.zero_le _⟩) hP (gD_va hD rfl) hS (fun u36 H locs hw hP hS => ?_)
        have hP : va_P (dC, dI) vwCl (mw q cI u36) H := hP
        have hf := lt_eq hw hf
        have hok := lt_ok hw hok
        obtain ⟨x37, ex37⟩ : ∃ y : Int32, y = v2_128 + 1 := ⟨_, rfl⟩
        refine lv_iinc (v := x37) (lv' := [(2, .int x37), (0, .ref (q 0)), (1, .int v1_128)]) hx hb dX12_digest_155 hl (k := 2) rfl (by rw [ex37]; rfl) (by decide) rfl (fun ls hl => ?_)
        have hf := lt_eq ex37 hf
        have hok := lt_ok ex37 hok
        refine lv_goto (tgt := 128) hx hb dX12_digest_158 (by decide) ?_
        exact ih_128 v1_128 x37 u36 _ _ hP hS _ (lv_sub hl [1, 2, 0] rfl) hf hok
  have J_93 : ∀ (n_93 : Nat) (v1_93 : Int32) (v2_93 : Int32) (m_93 : MS) (H : Heap) (locs : List Loc), va_P (dC, dI) vwCl (mw q cI m_93) H → va_S (wA (mw q cI m)) s.heap H locs → ∀ ls : Array Slot, lv_has ls 3 [(0, .ref (q 0)), (1, .int v1_93), (2, .int v2_93)] → F = pX12_digest_L93 n_93 v1_93 v2_93 m_93 → kX12_digest_L93 n_93 v1_93 v2_93 m_93 → W p l e rX12_digest s mi ([.ref (q 0)] : List Value).toArray below meth c H locs 0 0 (MQ below (gQl (dC, dI) (fun m9 => mw q cI m9) (wA (mw q cI m)) (pX12_digest m)) ([.ref (q 0)] : List Value).toArray s 0 0 (wA (mw q cI m))) (F0 mi 93 ls []) := by
    intro n_93
    induction n_93 with
    | zero =>
      intro v1_93 v2_93 m_93 H locs hP hS ls hl hf hok
      exact absurd hok (fun h => h)
    | succ n_93 ih_93 =>
      intro v1_93 v2_93 m_93 H locs hP hS ls hl hf hok
      have hf : F = bX12_digest_L93 (pX12_digest_L93 n_93) v1_93 v2_93 m_93 := hf
      have hok : kbX12_digest_L93 (kX12_digest_L93 n_93) v1_93 v2_93 m_93 := hok
      refine lv_iload_n hx hb dX12_digest_93 rfl (lv_at hl 2 rfl) ?_
      refine lv_iconst (v := 3) hx hb dX12_digest_94 (by decide) ?_
      refine lv_aload_n hx hb dX12_digest_95 rfl (lv_at hl 0 rfl) ?_
      refine va_get (D := (dC, dI)) (ci := 9) (v := .ref (q 1)) (C := RX12) (T := TX12) (N := 23) hx hb hts hin12 hown hK hP 0 rfl rfl 0 (by decide) fl7 (fun _ h9 => h9) rfl dX12_digest_96 ?_
      refine lv_iconst (v := 3) hx hb dX12_digest_99 (by decide) ?_
      refine g_ialdK (D := (dC, dI)) (tys := (tYS cI cB cO cL)) (k := 3) hx hb hK hP 1 0 rfl rfl (by decide) (by decide) (by decide) dX12_digest_100 ?_
      refine lv_imul hx hb dX12_digest_101 ?_
      refine lv_icmp_ge (tgt := 126) hx hb dX12_digest_102 (by decide) (fun c14 => ?_) (fun c14 => ?_)
      · have hf := it_eq c14 hf
        have hok := it_ok c14 hok
        refine lv_iconst (v := 0) hx hb dX12_digest_126 (by decide) ?_
        refine lv_istore_n (lv' := [(2, .int 0), (0, .ref (q 0)), (1, .int v1_93)]) hx hb dX12_digest_127 rfl hl (by decide) rfl (fun ls hl => ?_)
        exact J_128 fu v1_93 0 m_93 _ _ hP hS _ (lv_sub hl [1, 2, 0] rfl) hf hok
      · have hf := ie_eq c14 hf
        have hok := ie_ok c14 hok
        refine lv_aload_n hx hb dX12_digest_105 rfl (lv_at hl 0 rfl) ?_
        refine lv_aload_n hx hb dX12_digest_106 rfl (lv_at hl 0 rfl) ?_
        refine lv_iconst (v := 1) hx hb dX12_digest_107 (by decide) ?_
        refine lv_iload_n hx hb dX12_digest_108 rfl (lv_at hl 2 rfl) ?_
        refine lv_iconst (v := 3) hx hb dX12_digest_109 (by decide) ?_
        refine lv_idiv hx hb dX12_digest_110 (by decide) ?_
        refine lv_iload_n hx hb dX12_digest_111 rfl (lv_at hl 2 rfl) ?_
        refine lv_iconst (v := 3) hx hb dX12_digest_112 (by decide) ?_
        refine lv_irem hx hb dX12_digest_113 (by decide) ?_
        obtain ⟨h38, hok⟩ := hok
        refine gro_i (va_runV (As := [.int 1, .int (v2_93 / 3), .int (v2_93 - v2_93 / 3 * 3)]) (rest := [.ref (q 0)]) ⟨hx, hb, hml, hown, hts⟩ (mX12_partOf l dC dI cI cB cO cL q m_93 1 (v2_93 / 3) (v2_93 - v2_93 / 3 * 3)  h38) (cwV 3 hts gX12_digest_X12_partOf rfl rfl rfl (by decide +kernel) ⟨Nat.le_of_ble_eq_true rfl, Nat.le_of_ble_eq_true rfl⟩) ⟨gP_blind, va_recv hK hP (ci := 9) (q0 := 0) rfl rfl, gP_ok hP hK⟩ rfl rfl hl.1 rfl (lv_room (Nat.le_of_ble_eq_true rfl)) dX12_digest_114 ⟨Nat.zero_le _, Nat.zero_le _⟩) ?_
        refine gms_v (va_runV (As := [.int (pX12_partOf m_93 1 (v2_93 / 3) (v2_93 - v2_93 / 3 * 3))]) (rest := []) ⟨hx, hb, hml, hown, hts⟩ (mX12_mix l dC dI cI cB cO cL q m_93 (pX12_partOf m_93 1 (v2_93 / 3) (v2_93 - v2_93 / 3 * 3)) (gD_any hD) ) (cwV 1 hts gX12_digest_X12_mix rfl rfl rfl (by decide +kernel) ⟨Nat.le_of_ble_eq_true rfl, Nat.le_of_ble_eq_true rfl⟩) ⟨gP_blind, va_recv hK hP (ci := 9) (q0 := 0) rfl rfl, gP_ok hP hK⟩ rfl rfl hl.1 rfl (lv_room (Nat.le_of_ble_eq_true rfl)) dX12_digest_117 ⟨Nat.zero_le _, Nat.zero_le _⟩) hP (gD_va hD rfl) hS (fun u40 H locs hw hP hS => ?_)
        have hP : va_P (dC, dI) vwCl (mw q cI u40) H := hP
        have hf := lt_eq hw hf
        have hok := lt_ok hw hok
        obtain ⟨x41, ex41⟩ : ∃ y : Int32, y = v2_93 + 1 := ⟨_, rfl⟩
        refine lv_iinc (v := x41) (lv' := [(2, .int x41), (0, .ref (q 0)), (1, .int v1_93)]) hx hb dX12_digest_120 hl (k := 2) rfl (by rw [ex41]; rfl) (by decide) rfl (fun ls hl => ?_)
        have hf := lt_eq ex41 hf
        have hok := lt_ok ex41 hok
        refine lv_goto (tgt := 93) hx hb dX12_digest_123 (by decide) ?_
        exact ih_93 v1_93 x41 u40 _ _ hP hS _ (lv_sub hl [1, 2, 0] rfl) hf hok
  have J_69 : ∀ (n_69 : Nat) (v1_69 : Int32) (v2_69 : Int32) (m_69 : MS) (H : Heap) (locs : List Loc), va_P (dC, dI) vwCl (mw q cI m_69) H → va_S (wA (mw q cI m)) s.heap H locs → ∀ ls : Array Slot, lv_has ls 3 [(0, .ref (q 0)), (1, .int v1_69), (2, .int v2_69)] → F = pX12_digest_L69 n_69 v1_69 v2_69 m_69 → kX12_digest_L69 n_69 v1_69 v2_69 m_69 → W p l e rX12_digest s mi ([.ref (q 0)] : List Value).toArray below meth c H locs 0 0 (MQ below (gQl (dC, dI) (fun m9 => mw q cI m9) (wA (mw q cI m)) (pX12_digest m)) ([.ref (q 0)] : List Value).toArray s 0 0 (wA (mw q cI m))) (F0 mi 69 ls []) := by
    intro n_69
    induction n_69 with
    | zero =>
      intro v1_69 v2_69 m_69 H locs hP hS ls hl hf hok
      exact absurd hok (fun h => h)
    | succ n_69 ih_69 =>
      intro v1_69 v2_69 m_69 H locs hP hS ls hl hf hok
      have hf : F = bX12_digest_L69 (pX12_digest_L69 n_69) v1_69 v2_69 m_69 := hf
      have hok : kbX12_digest_L69 (kX12_digest_L69 n_69) v1_69 v2_69 m_69 := hok
      refine lv_iload_n hx hb dX12_digest_69 rfl (lv_at hl 2 rfl) ?_
      refine lv_aload_n hx hb dX12_digest_70 rfl (lv_at hl 0 rfl) ?_
      refine va_get (D := (dC, dI)) (ci := 9) (v := .ref (q 1)) (C := RX12) (T := TX12) (N := 23) hx hb hts hin12 hown hK hP 0 rfl rfl 0 (by decide) fl7 (fun _ h9 => h9) rfl dX12_digest_71 ?_
      refine lv_iconst (v := 2) hx hb dX12_digest_74 (by decide) ?_
      refine g_ialdK (D := (dC, dI)) (tys := (tYS cI cB cO cL)) (k := 2) hx hb hK hP 1 0 rfl rfl (by decide) (by decide) (by decide) dX12_digest_75 ?_
      refine lv_icmp_ge (tgt := 91) hx hb dX12_digest_76 (by decide) (fun c13 => ?_) (fun c13 => ?_)
      · have hf := it_eq c13 hf
        have hok := it_ok c13 hok
        refine lv_iconst (v := 0) hx hb dX12_digest_91 (by decide) ?_
        refine lv_istore_n (lv' := [(2, .int 0), (0, .ref (q 0)), (1, .int v1_69)]) hx hb dX12_digest_92 rfl hl (by decide) rfl (fun ls hl => ?_)
        exact J_93 fu v1_69 0 m_69 _ _ hP hS _ (lv_sub hl [1, 2, 0] rfl) hf hok
      · have hf := ie_eq c13 hf
        have hok := ie_ok c13 hok
        refine lv_aload_n hx hb dX12_digest_79 rfl (lv_at hl 0 rfl) ?_
        refine lv_iload_n hx hb dX12_digest_80 rfl (lv_at hl 2 rfl) ?_
        refine lv_iload_n hx hb dX12_digest_81 rfl (lv_at hl 1 rfl) ?_
        obtain ⟨h42, hok⟩ := hok
        refine gms_v (va_runV (As := [.int v2_69, .int v1_69]) (rest := []) ⟨hx, hb, hml, hown, hts⟩ (mX12_mixMicrophone l dC dI cI cB cO cL q m_69 v2_69 v1_69 (gD_any hD) h42) (cwV 2 hts gX12_digest_X12_mixMicrophone rfl rfl rfl (by decide +kernel) ⟨Nat.le_of_ble_eq_true rfl, Nat.le_of_ble_eq_true rfl⟩) ⟨gP_blind, va_recv hK hP (ci := 9) (q0 := 0) rfl rfl, gP_ok hP hK⟩ rfl rfl hl.1 rfl (lv_room (Nat.le_of_ble_eq_true rfl)) dX12_digest_82 ⟨Nat.zero_le _, Nat.zero_le _⟩) hP (gD_va hD rfl) hS (fun u44 H locs hw hP hS => ?_)
        have hP : va_P (dC, dI) vwCl (mw q cI u44) H := hP
        have hf := lt_eq hw hf
        have hok := lt_ok hw hok
        obtain ⟨x45, ex45⟩ : ∃ y : Int32, y = v2_69 + 1 := ⟨_, rfl⟩
        refine lv_iinc (v := x45) (lv' := [(2, .int x45), (0, .ref (q 0)), (1, .int v1_69)]) hx hb dX12_digest_85 hl (k := 2) rfl (by rw [ex45]; rfl) (by decide) rfl (fun ls hl => ?_)
        have hf := lt_eq ex45 hf
        have hok := lt_ok ex45 hok
        refine lv_goto (tgt := 69) hx hb dX12_digest_88 (by decide) ?_
        exact ih_69 v1_69 x45 u44 _ _ hP hS _ (lv_sub hl [1, 2, 0] rfl) hf hok
  have J_45 : ∀ (n_45 : Nat) (v1_45 : Int32) (v2_45 : Int32) (m_45 : MS) (H : Heap) (locs : List Loc), va_P (dC, dI) vwCl (mw q cI m_45) H → va_S (wA (mw q cI m)) s.heap H locs → ∀ ls : Array Slot, lv_has ls 3 [(0, .ref (q 0)), (1, .int v1_45), (2, .int v2_45)] → F = pX12_digest_L45 n_45 v1_45 v2_45 m_45 → kX12_digest_L45 n_45 v1_45 v2_45 m_45 → W p l e rX12_digest s mi ([.ref (q 0)] : List Value).toArray below meth c H locs 0 0 (MQ below (gQl (dC, dI) (fun m9 => mw q cI m9) (wA (mw q cI m)) (pX12_digest m)) ([.ref (q 0)] : List Value).toArray s 0 0 (wA (mw q cI m))) (F0 mi 45 ls []) := by
    intro n_45
    induction n_45 with
    | zero =>
      intro v1_45 v2_45 m_45 H locs hP hS ls hl hf hok
      exact absurd hok (fun h => h)
    | succ n_45 ih_45 =>
      intro v1_45 v2_45 m_45 H locs hP hS ls hl hf hok
      have hf : F = bX12_digest_L45 (pX12_digest_L45 n_45) v1_45 v2_45 m_45 := hf
      have hok : kbX12_digest_L45 (kX12_digest_L45 n_45) v1_45 v2_45 m_45 := hok
      refine lv_iload_n hx hb dX12_digest_45 rfl (lv_at hl 2 rfl) ?_
      refine lv_bipush (v := 11) hx hb dX12_digest_46 (by decide) ?_
      refine lv_icmp_ge (tgt := 67) hx hb dX12_digest_48 (by decide) (fun c12 => ?_) (fun c12 => ?_)
      · have hf := it_eq c12 hf
        have hok := it_ok c12 hok
        refine lv_iconst (v := 0) hx hb dX12_digest_67 (by decide) ?_
        refine lv_istore_n (lv' := [(2, .int 0), (0, .ref (q 0)), (1, .int v1_45)]) hx hb dX12_digest_68 rfl hl (by decide) rfl (fun ls hl => ?_)
        exact J_69 fu v1_45 0 m_45 _ _ hP hS _ (lv_sub hl [1, 2, 0] rfl) hf hok
      · have hf := ie_eq c12 hf
        have hok := ie_ok c12 hok
        refine lv_aload_n hx hb dX12_digest_51 rfl (lv_at hl 0 rfl) ?_
        refine lv_aload_n hx hb dX12_digest_52 rfl (lv_at hl 0 rfl) ?_
        refine lv_iload_n hx hb dX12_digest_53 rfl (lv_at hl 2 rfl) ?_
        refine lv_iload_n hx hb dX12_digest_54 rfl (lv_at hl 1 rfl) ?_
        obtain ⟨h46, hok⟩ := hok
        refine gro_i (va_runV (As := [.int v2_45, .int v1_45]) (rest := [.ref (q 0)]) ⟨hx, hb, hml, hown, hts⟩ (mX12_wholeOf l dC dI cI cB cO cL q m_45 v2_45 v1_45  h46) (cwV 2 hts gX12_digest_X12_wholeOf rfl rfl rfl (by decide +kernel) ⟨Nat.le_of_ble_eq_true rfl, Nat.le_of_ble_eq_true rfl⟩) ⟨gP_blind, va_recv hK hP (ci := 9) (q0 := 0) rfl rfl, gP_ok hP hK⟩ rfl rfl hl.1 rfl (lv_room (Nat.le_of_ble_eq_true rfl)) dX12_digest_55 ⟨Nat.zero_le _, Nat.zero_le _⟩) ?_
        refine gms_v (va_runV (As := [.int (pX12_wholeOf m_45 v2_45 v1_45)]) (rest := []) ⟨hx, hb, hml, hown, hts⟩ (mX12_mix l dC dI cI cB cO cL q m_45 (pX12_wholeOf m_45 v2_45 v1_45) (gD_any hD) ) (cwV 1 hts gX12_digest_X12_mix rfl rfl rfl (by decide +kernel) ⟨Nat.le_of_ble_eq_true rfl, Nat.le_of_ble_eq_true rfl⟩) ⟨gP_blind, va_recv hK hP (ci := 9) (q0 := 0) rfl rfl, gP_ok hP hK⟩ rfl rfl hl.1 rfl (lv_room (Nat.le_of_ble_eq_true rfl)) dX12_digest_58 ⟨Nat.zero_le _, Nat.zero_le _⟩) hP (gD_va hD rfl) hS (fun u48 H locs hw hP hS => ?_)
        have hP : va_P (dC, dI) vwCl (mw q cI u48) H := hP
        have hf := lt_eq hw hf
        have hok := lt_ok hw hok
        obtain ⟨x49, ex49⟩ : ∃ y : Int32, y = v2_45 + 1 := ⟨_, rfl⟩
        refine lv_iinc (v := x49) (lv' := [(2, .int x49), (0, .ref (q 0)), (1, .int v1_45)]) hx hb dX12_digest_61 hl (k := 2) rfl (by rw [ex49]; rfl) (by decide) rfl (fun ls hl => ?_)
        have hf := lt_eq ex49 hf
        have hok := lt_ok ex49 hok
        refine lv_goto (tgt := 45) hx hb dX12_digest_64 (by decide) ?_
        exact ih_45 v1_45 x49 u48 _ _ hP hS _ (lv_sub hl [1, 2, 0] rfl) hf hok
  refine lv_aload_n hx hb dX12_digest_0 rfl (lv_at hl 0 rfl) ?_
  refine lv_iconst (v := 0) hx hb dX12_digest_1 (by decide) ?_
  refine va_put (D := (dC, dI)) (ci := 9) (v := .int 0) (ty := .int) (C := RX12) (T := TX12) (N := 23) hx hb hts hin12 tyX12 tyX12_ok nmX12 hown hK hP (gD_va hD rfl) hS 0 rfl rfl 7 (by decide) fl49 (fun _ h9 => h9) rfl (by decide +kernel) rfl rfl (Nat.le_of_ble_eq_true rfl) dX12_digest_2 (fun H locs hP _ hS => ?_)
  obtain ⟨m_1, em_1⟩ : ∃ z9 : MS, z9 = msi m 3 0 := ⟨_, rfl⟩
  have hP : va_P (dC, dI) vwCl (mw q cI m_1) H := by rw [em_1]; exact hP
  have hf := lt_eq em_1 hf
  have hok := lt_ok em_1 hok
  refine lv_aload_n hx hb dX12_digest_5 rfl (lv_at hl 0 rfl) ?_
  refine lv_ldc (v := (-1000000000)) hx hb hown cn71 dX12_digest_6 ?_
  obtain ⟨h2, hok⟩ := hok
  refine gms_i (va_runV (As := [.int (-1000000000)]) (rest := []) ⟨hx, hb, hml, hown, hts⟩ (mX12_finds l dC dI cI cB cO cL q m_1 (-1000000000) (gD_any hD) h2) (cwV 1 hts gX12_digest_X12_finds rfl rfl rfl (by decide +kernel) ⟨Nat.le_of_ble_eq_true rfl, Nat.le_of_ble_eq_true rfl⟩) ⟨gP_blind, va_recv hK hP (ci := 9) (q0 := 0) rfl rfl, gP_ok hP hK⟩ rfl rfl hl.1 rfl (lv_room (Nat.le_of_ble_eq_true rfl)) dX12_digest_8 ⟨Nat.zero_le _, Nat.zero_le _⟩) hP (gD_va hD rfl) hS (fun r3 u4 H locs hw hP hS => ?_)
  have hP : va_P (dC, dI) vwCl (mw q cI u4) H := hP
  have hf := bd_eq hw hf
  have hok := bd_ok hw hok
  refine lv_istore_n (lv' := [(1, .int r3), (0, .ref (q 0))]) hx hb dX12_digest_11 rfl hl (by decide) rfl (fun ls hl => ?_)
  refine lv_aload_n hx hb dX12_digest_12 rfl (lv_at hl 1 rfl) ?_
  refine lv_ldc2 (v := 18879) hx hb hown cn297 dX12_digest_13 ?_
  refine va_put (D := (dC, dI)) (ci := 9) (v := .long 18879) (ty := .long) (C := RX12) (T := TX12) (N := 23) hx hb hts hin12 tyX12 tyX12_ok nmX12 hown hK hP (gD_va hD rfl) hS 0 rfl rfl 22 (by decide) fl290 (fun _ h9 => h9) rfl (by decide +kernel) rfl rfl (Nat.le_of_ble_eq_true rfl) dX12_digest_16 (fun H locs hP _ hS => ?_)
  obtain ⟨m_5, em_5⟩ : ∃ z9 : MS, z9 = msj u4 1 18879 := ⟨_, rfl⟩
  have hP : va_P (dC, dI) vwCl (mw q cI m_5) H := by rw [em_5]; exact hP
  have hf := lt_eq em_5 hf
  have hok := lt_ok em_5 hok
  refine lv_aload_n hx hb dX12_digest_19 rfl (lv_at hl 1 rfl) ?_
  refine lv_aload_n hx hb dX12_digest_20 rfl (lv_at hl 1 rfl) ?_
  refine va_get (D := (dC, dI)) (ci := 9) (v := .int (m_5.1 0)) (C := RX12) (T := TX12) (N := 23) hx hb hts hin12 hown hK hP 0 rfl rfl 3 (by decide) fl53 (fun _ h9 => h9) rfl dX12_digest_21 ?_
  refine gms_v (va_runV (As := [.int (m_5.1 0)]) (rest := []) ⟨hx, hb, hml, hown, hts⟩ (mX12_mix l dC dI cI cB cO cL q m_5 (m_5.1 0) (gD_any hD) ) (cwV 1 hts gX12_digest_X12_mix rfl rfl rfl (by decide +kernel) ⟨Nat.le_of_ble_eq_true rfl, Nat.le_of_ble_eq_true rfl⟩) ⟨gP_blind, va_recv hK hP (ci := 9) (q0 := 0) rfl rfl, gP_ok hP hK⟩ rfl rfl hl.1 rfl (lv_room (Nat.le_of_ble_eq_true rfl)) dX12_digest_24 ⟨Nat.zero_le _, Nat.zero_le _⟩) hP (gD_va hD rfl) hS (fun u7 H locs hw hP hS => ?_)
  have hP : va_P (dC, dI) vwCl (mw q cI u7) H := hP
  have hf := lt_eq hw hf
  have hok := lt_ok hw hok
  refine lv_aload_n hx hb dX12_digest_27 rfl (lv_at hl 1 rfl) ?_
  refine lv_aload_n hx hb dX12_digest_28 rfl (lv_at hl 1 rfl) ?_
  refine va_get (D := (dC, dI)) (ci := 9) (v := .int (u7.1 1)) (C := RX12) (T := TX12) (N := 23) hx hb hts hin12 hown hK hP 0 rfl rfl 5 (by decide) fl235 (fun _ h9 => h9) rfl dX12_digest_29 ?_
  refine gms_v (va_runV (As := [.int (u7.1 1)]) (rest := []) ⟨hx, hb, hml, hown, hts⟩ (mX12_mix l dC dI cI cB cO cL q u7 (u7.1 1) (gD_any hD) ) (cwV 1 hts gX12_digest_X12_mix rfl rfl rfl (by decide +kernel) ⟨Nat.le_of_ble_eq_true rfl, Nat.le_of_ble_eq_true rfl⟩) ⟨gP_blind, va_recv hK hP (ci := 9) (q0 := 0) rfl rfl, gP_ok hP hK⟩ rfl rfl hl.1 rfl (lv_room (Nat.le_of_ble_eq_true rfl)) dX12_digest_32 ⟨Nat.zero_le _, Nat.zero_le _⟩) hP (gD_va hD rfl) hS (fun u9 H locs hw hP hS => ?_)
  have hP : va_P (dC, dI) vwCl (mw q cI u9) H := hP
  have hf := lt_eq hw hf
  have hok := lt_ok hw hok
  refine lv_aload_n hx hb dX12_digest_35 rfl (lv_at hl 1 rfl) ?_
  refine lv_aload_n hx hb dX12_digest_36 rfl (lv_at hl 1 rfl) ?_
  refine va_get (D := (dC, dI)) (ci := 9) (v := .int (u9.1 2)) (C := RX12) (T := TX12) (N := 23) hx hb hts hin12 hown hK hP 0 rfl rfl 6 (by decide) fl282 (fun _ h9 => h9) rfl dX12_digest_37 ?_
  refine gms_v (va_runV (As := [.int (u9.1 2)]) (rest := []) ⟨hx, hb, hml, hown, hts⟩ (mX12_mix l dC dI cI cB cO cL q u9 (u9.1 2) (gD_any hD) ) (cwV 1 hts gX12_digest_X12_mix rfl rfl rfl (by decide +kernel) ⟨Nat.le_of_ble_eq_true rfl, Nat.le_of_ble_eq_true rfl⟩) ⟨gP_blind, va_recv hK hP (ci := 9) (q0 := 0) rfl rfl, gP_ok hP hK⟩ rfl rfl hl.1 rfl (lv_room (Nat.le_of_ble_eq_true rfl)) dX12_digest_40 ⟨Nat.zero_le _, Nat.zero_le _⟩) hP (gD_va hD rfl) hS (fun u11 H locs hw hP hS => ?_)
  have hP : va_P (dC, dI) vwCl (mw q cI u11) H := hP
  have hf := lt_eq hw hf
  have hok := lt_ok hw hok
  refine lv_iconst (v := 0) hx hb dX12_digest_43 (by decide) ?_
  refine lv_istore_n (lv' := [(2, .int 0), (1, .int r3), (0, .ref (q 0))]) hx hb dX12_digest_44 rfl hl (by decide) rfl (fun ls hl => ?_)
  exact J_45 fu r3 0 u11 _ _ hP hS _ (lv_sub hl [2, 1, 0] rfl) hf hok
