noncomputable def pX10_push_L19   (u_19 : US) (b_19 : BS) : US × BS := lt (usi u_19 0 (((u_19.1 0) + 1) - ((u_19.1 0) + 1) / 4 * 4)) fun (u_5 : US) => lt (usi u_5 1 (jmin ((u_5.1 1) + 1) 4)) fun (u_6 : US) => (u_6, b_19)
noncomputable def pX10_push (u : US) (b : BS) : US × BS := if (u.1 0) = 0 then (lt (pX2_copyFrom (u.2 0) b) fun (u4 : BS × BS) => pX10_push_L19 (usb u 0 u4.1) u4.2) else (if (u.1 0) = 1 then (lt (pX2_copyFrom (u.2 1) b) fun (u10 : BS × BS) => pX10_push_L19 (usb u 1 u10.1) u10.2) else (if (u.1 0) = 2 then (lt (pX2_copyFrom (u.2 2) b) fun (u14 : BS × BS) => pX10_push_L19 (usb u 2 u14.1) u14.2) else (lt (pX2_copyFrom (u.2 3) b) fun (u18 : BS × BS) => pX10_push_L19 (usb u 3 u18.1) u18.2)))
def kX10_push (u : US) (b : BS) : Prop := if (u.1 0) = 0 then (kX2_copyFrom (u.2 0) b) else (if (u.1 0) = 1 then (kX2_copyFrom (u.2 1) b) else (if (u.1 0) = 2 then (kX2_copyFrom (u.2 2) b) else (((u.1 0) = 3) ∧ (kX2_copyFrom (u.2 3) b))))
abbrev rX10_push : Room := { frames := 3, cells := 0, slots := 0, locals := 82 }
set_option maxHeartbeats 4000000 in
set_option maxRecDepth 100000 in
theorem mX10_push (l : Launch) (dC : Nat → ClassId) (dI : Nat → Nat → Nat) (cI cB cO cL : ClassId) (qu : Nat → Nat) (qb : Nat → Nat) (u : US) (b : BS) (hI : gD (fun _ => True) (uAd qu ++ bAd qb)) (hok : kX10_push u b) : Met l yX10_push wsX10_push rX10_push (cP (dC, dI) (tYS cI cB cO cL) (uw qu cI cB u ++ bw qb cI b) [.ref (qu 0), .ref (qb 0)]) (gQv (dC, dI) (fun z9 : US × BS => uw qu cI cB z9.1 ++ bw qb cI z9.2) (wA (uw qu cI cB u ++ bw qb cI b)) (pX10_push u b)) 0 0 (wA (uw qu cI cB u ++ bw qb cI b)) := by
  refine cMet (cc := cX10_push) (maxL := 3) (ret := none) [(0, .ref (qu 0)), (1, .ref (qb 0))] (by decide) rfl rfl rfl ?_
  intro p e s mi below meth c C0 hK hE hP ls hl
  obtain ⟨hx, hb, hr, hml, hown, hts, hlocks⟩ := id C0
  have hown : s.vm.findClass RX10 = some mi.cls := hown
  have hS : va_S (wA (uw qu cI cB u ++ bw qb cI b)) s.heap s.heap [] := va_S.rf
  have hD : gD (wA (uw qu cI cB u ++ bw qb cI b)) (uAd qu ++ bAd qb) := gD_wA (ws := uw qu cI cB u ++ bw qb cI b) hI
  have hP : va_P (dC, dI) vwCl (uw qu cI cB u ++ bw qb cI b) s.heap := hP
  obtain ⟨F, hF⟩ : ∃ F, F = pX10_push u b := ⟨_, rfl⟩
  have hf := hF
  have hin10 : ∀ w ∈ u_ws RX10 TX10 3, w ∈ wsX10_push := by decide +kernel
  have fl11 := hts (.fieldLink RX10 11 "ClickBench$UndoStack" "ring" "[LClickBench$Bench;") (by decide +kernel)
  have fl17 := hts (.fieldLink RX10 17 "ClickBench$UndoStack" "next" "I") (by decide +kernel)
  have fl21 := hts (.fieldLink RX10 21 "ClickBench$UndoStack" "depth" "I") (by decide +kernel)
  have ml29 := hts (.methodLink RX10 29 Lib.Math.min.name) (by decide +kernel)
  have ms29 := hts (.static Lib.Math.min.name) (by decide +kernel)
  have mI := hts (.initialized "java/lang/Math") (by decide +kernel)
  have mc29 := hts (.code Lib.Math.min.name Lib.Math.min.code 2 (some .int)) (by decide +kernel)
  have J_19 : ∀ (u_19 : US) (b_19 : BS) (H : Heap) (locs : List Loc), va_P (dC, dI) vwCl (uw qu cI cB u_19 ++ bw qb cI b_19) H → va_S (wA (uw qu cI cB u ++ bw qb cI b)) s.heap H locs → ∀ ls : Array Slot, lv_has ls 3 [(0, .ref (qu 0))] → F = pX10_push_L19 u_19 b_19 → W p l e rX10_push s mi ([.ref (qu 0), .ref (qb 0)] : List Value).toArray below meth c H locs 0 0 (MQ below (gQv (dC, dI) (fun z9 : US × BS => uw qu cI cB z9.1 ++ bw qb cI z9.2) (wA (uw qu cI cB u ++ bw qb cI b)) (pX10_push u b)) ([.ref (qu 0), .ref (qb 0)] : List Value).toArray s 0 0 (wA (uw qu cI cB u ++ bw qb cI b))) (F0 mi 19 ls []) := by
    intro u_19 b_19 H locs hP hS ls hl hf
    refine lv_aload_n hx hb dX10_push_19 rfl (lv_at hl 0 rfl) ?_
    refine lv_aload_n hx hb dX10_push_20 rfl (lv_at hl 0 rfl) ?_
    refine va_get (D := (dC, dI)) (ci := 7) (v := .int (u_19.1 0)) (C := RX10) (T := TX10) (N := 3) hx hb hts hin10 hown hK hP 0 rfl rfl 1 (by decide) fl17 (fun _ h9 => h9) rfl dX10_push_21 ?_
    refine lv_iconst (v := 1) hx hb dX10_push_24 (by decide) ?_
    refine lv_iadd hx hb dX10_push_25 ?_
    refine lv_iconst (v := 4) hx hb dX10_push_26 (by decide) ?_
    refine lv_irem hx hb dX10_push_27 (by decide) ?_
    refine va_put (D := (dC, dI)) (ci := 7) (v := .int (((u_19.1 0) + 1) - ((u_19.1 0) + 1) / 4 * 4)) (ty := .int) (C := RX10) (T := TX10) (N := 3) hx hb hts hin10 tyX10 tyX10_ok nmX10 hown hK hP (gD_va hD rfl) hS 0 rfl rfl 1 (by decide) fl17 (fun _ h9 => h9) rfl (by decide +kernel) rfl rfl (Nat.le_of_ble_eq_true rfl) dX10_push_28 (fun H locs hP _ hS => ?_)
    obtain ⟨u_5, eu_5⟩ : ∃ z9 : US, z9 = usi u_19 0 (((u_19.1 0) + 1) - ((u_19.1 0) + 1) / 4 * 4) := ⟨_, rfl⟩
    have hP : va_P (dC, dI) vwCl (uw qu cI cB u_5 ++ bw qb cI b_19) H := by rw [eu_5]; exact hP
    have hf := lt_eq eu_5 hf
    refine lv_aload_n hx hb dX10_push_31 rfl (lv_at hl 0 rfl) ?_
    refine lv_aload_n hx hb dX10_push_32 rfl (lv_at hl 0 rfl) ?_
    refine va_get (D := (dC, dI)) (ci := 7) (v := .int (u_5.1 1)) (C := RX10) (T := TX10) (N := 3) hx hb hts hin10 hown hK hP 0 rfl rfl 2 (by decide) fl21 (fun _ h9 => h9) rfl dX10_push_33 ?_
    refine lv_iconst (v := 1) hx hb dX10_push_36 (by decide) ?_
    refine lv_iadd hx hb dX10_push_37 ?_
    refine lv_iconst (v := 4) hx hb dX10_push_38 (by decide) ?_
    refine va_mmin hx hb (hml.trans hl.1.symm) hown ml29 ms29 mI mc29 (Nat.le_of_ble_eq_true rfl) (Nat.le_of_ble_eq_true rfl) (Nat.zero_le _) (Nat.zero_le _) dX10_push_39 ?_
    refine va_put (D := (dC, dI)) (ci := 7) (v := .int (jmin ((u_5.1 1) + 1) 4)) (ty := .int) (C := RX10) (T := TX10) (N := 3) hx hb hts hin10 tyX10 tyX10_ok nmX10 hown hK hP (gD_va hD rfl) hS 0 rfl rfl 2 (by decide) fl21 (fun _ h9 => h9) rfl (by decide +kernel) rfl rfl (Nat.le_of_ble_eq_true rfl) dX10_push_42 (fun H locs hP _ hS => ?_)
    obtain ⟨u_6, eu_6⟩ : ∃ z9 : US, z9 = usi u_5 1 (jmin ((u_5.1 1) + 1) 4) := ⟨_, rfl⟩
    have hP : va_P (dC, dI) vwCl (uw qu cI cB u_6 ++ bw qb cI b_19) H := by rw [eu_6]; exact hP
    have hf := lt_eq eu_6 hf
    exact e_mv C0 (hf.symm.trans hF) hP hS dX10_push_45
  refine lv_aload_n hx hb dX10_push_0 rfl (lv_at hl 0 rfl) ?_
  refine va_get (D := (dC, dI)) (ci := 7) (v := .ref (qu 1)) (C := RX10) (T := TX10) (N := 3) hx hb hts hin10 hown hK hP 0 rfl rfl 0 (by decide) fl11 (fun _ h9 => h9) rfl dX10_push_1 ?_
  refine lv_aload_n hx hb dX10_push_4 rfl (lv_at hl 0 rfl) ?_
  refine va_get (D := (dC, dI)) (ci := 7) (v := .int (u.1 0)) (C := RX10) (T := TX10) (N := 3) hx hb hts hin10 hown hK hP 0 rfl rfl 1 (by decide) fl17 (fun _ h9 => h9) rfl dX10_push_5 ?_
  by_cases c1 : (u.1 0) = 0
  · have hf := it_eq c1 hf
    have hok := it_ok c1 hok
    refine g_aaldK (D := (dC, dI)) (tys := (tYS cI cB cO cL)) (k := 0) (x := qu 2) hx hb hK hP 1 1 rfl rfl (by rw [c1]; rfl) (by rw [c1]; decide) (by decide) rfl dX10_push_8 ?_
    refine lv_astore_n (lv' := [(2, .ref (qu 2)), (0, .ref (qu 0)), (1, .ref (qb 0))]) hx hb dX10_push_9 rfl hl (by decide) rfl (fun ls hl => ?_)
    refine lv_aload_n hx hb dX10_push_10 rfl (lv_at hl 0 rfl) ?_
    refine lv_ifnull hx hb dX10_push_11 ?_
    refine lv_aload_n hx hb dX10_push_14 rfl (lv_at hl 0 rfl) ?_
    refine lv_aload_n hx hb dX10_push_15 rfl (lv_at hl 2 rfl) ?_
    have h2 : kX2_copyFrom (u.2 0) b := hok
    have hPc := hP.sub (ws' := bw (ush qu 2) cI (u.2 0) ++ bw qb cI b) [2, 3, 4, 5, 6, 7, 8, 9, 10, 38, 39, 40, 41, 42, 43, 44, 45, 46] rfl
    refine gmu_v (va_runV (As := [.ref (qb 0)]) (rest := []) ⟨hx, hb, hml, hown, hts⟩ (mX2_copyFrom l dC dI cI cB cO cL (ush qu 2) qb (u.2 0) b (gD_subT hD [2, 3, 4, 5, 6, 7, 8, 9, 10, 38, 39, 40, 41, 42, 43, 44, 45, 46] rfl rfl) h2) (cwV 1 hts gX10_push_X2_copyFrom rfl rfl rfl (by decide +kernel) ⟨Nat.le_of_ble_eq_true rfl, Nat.le_of_ble_eq_true rfl⟩) ⟨cP_blind, va_recv hK hPc (ci := 1) (q0 := 0) rfl rfl, cP_ok hPc hK hE⟩ rfl rfl hl.1 rfl (lv_room (Nat.le_of_ble_eq_true rfl)) dX10_push_16 ⟨Nat.zero_le _, Nat.zero_le _⟩) hP (gD_va hD rfl) hS [2, 3, 4, 5, 6, 7, 8, 9, 10, 38, 39, 40, 41, 42, 43, 44, 45, 46] rfl (fun _ => rfl) (fun u4 H locs hw hP hS => ?_)
    have hP : va_P (dC, dI) vwCl (uw qu cI cB (usb u 0 u4.1) ++ bw qb cI u4.2) H := hP
    have hf := lt_eq hw hf
    exact J_19 (usb u 0 u4.1) u4.2 _ _ hP hS _ (lv_sub hl [1] rfl) hf
  · have hf := ie_eq c1 hf
    have hok := ie_ok c1 hok
    by_cases c7 : (u.1 0) = 1
    · have hf := it_eq c7 hf
      have hok := it_ok c7 hok
      refine g_aaldK (D := (dC, dI)) (tys := (tYS cI cB cO cL)) (k := 1) (x := qu 11) hx hb hK hP 1 1 rfl rfl (by rw [c7]; rfl) (by rw [c7]; decide) (by decide) rfl dX10_push_8 ?_
      refine lv_astore_n (lv' := [(2, .ref (qu 11)), (0, .ref (qu 0)), (1, .ref (qb 0))]) hx hb dX10_push_9 rfl hl (by decide) rfl (fun ls hl => ?_)
      refine lv_aload_n hx hb dX10_push_10 rfl (lv_at hl 0 rfl) ?_
      refine lv_ifnull hx hb dX10_push_11 ?_
      refine lv_aload_n hx hb dX10_push_14 rfl (lv_at hl 0 rfl) ?_
      refine lv_aload_n hx hb dX10_push_15 rfl (lv_at hl 2 rfl) ?_
      have h8 : kX2_copyFrom (u.2 1) b := hok
      have hPc := hP.sub (ws' := bw (ush qu 11) cI (u.2 1) ++ bw qb cI b) [11, 12, 13, 14, 15, 16, 17, 18, 19, 38, 39, 40, 41, 42, 43, 44, 45, 46] rfl
      refine gmu_v (va_runV (As := [.ref (qb 0)]) (rest := []) ⟨hx, hb, hml, hown, hts⟩ (mX2_copyFrom l dC dI cI cB cO cL (ush qu 11) qb (u.2 1) b (gD_subT hD [11, 12, 13, 14, 15, 16, 17, 18, 19, 38, 39, 40, 41, 42, 43, 44, 45, 46] rfl rfl) h8) (cwV 1 hts gX10_push_X2_copyFrom rfl rfl rfl (by decide +kernel) ⟨Nat.le_of_ble_eq_true rfl, Nat.le_of_ble_eq_true rfl⟩) ⟨cP_blind, va_recv hK hPc (ci := 1) (q0 := 0) rfl rfl, cP_ok hPc hK hE⟩ rfl rfl hl.1 rfl (lv_room (Nat.le_of_ble_eq_true rfl)) dX10_push_16 ⟨Nat.zero_le _, Nat.zero_le _⟩) hP (gD_va hD rfl) hS [11, 12, 13, 14, 15, 16, 17, 18, 19, 38, 39, 40, 41, 42, 43, 44, 45, 46] rfl (fun _ => rfl) (fun u10 H locs hw hP hS => ?_)
      have hP : va_P (dC, dI) vwCl (uw qu cI cB (usb u 1 u10.1) ++ bw qb cI u10.2) H := hP
      have hf := lt_eq hw hf
      exact J_19 (usb u 1 u10.1) u10.2 _ _ hP hS _ (lv_sub hl [1] rfl) hf
    · have hf := ie_eq c7 hf
      have hok := ie_ok c7 hok
      by_cases c11 : (u.1 0) = 2
      · have hf := it_eq c11 hf
        have hok := it_ok c11 hok
        refine g_aaldK (D := (dC, dI)) (tys := (tYS cI cB cO cL)) (k := 2) (x := qu 20) hx hb hK hP 1 1 rfl rfl (by rw [c11]; rfl) (by rw [c11]; decide) (by decide) rfl dX10_push_8 ?_
        refine lv_astore_n (lv' := [(2, .ref (qu 20)), (0, .ref (qu 0)), (1, .ref (qb 0))]) hx hb dX10_push_9 rfl hl (by decide) rfl (fun ls hl => ?_)
        refine lv_aload_n hx hb dX10_push_10 rfl (lv_at hl 0 rfl) ?_
        refine lv_ifnull hx hb dX10_push_11 ?_
        refine lv_aload_n hx hb dX10_push_14 rfl (lv_at hl 0 rfl) ?_
        refine lv_aload_n hx hb dX10_push_15 rfl (lv_at hl 2 rfl) ?_
        have h12 : kX2_copyFrom (u.2 2) b := hok
        have hPc := hP.sub (ws' := bw (ush qu 20) cI (u.2 2) ++ bw qb cI b) [20, 21, 22, 23, 24, 25, 26, 27, 28, 38, 39, 40, 41, 42, 43, 44, 45, 46] rfl
        refine gmu_v (va_runV (As := [.ref (qb 0)]) (rest := []) ⟨hx, hb, hml, hown, hts⟩ (mX2_copyFrom l dC dI cI cB cO cL (ush qu 20) qb (u.2 2) b (gD_subT hD [20, 21, 22, 23, 24, 25, 26, 27, 28, 38, 39, 40, 41, 42, 43, 44, 45, 46] rfl rfl) h12) (cwV 1 hts gX10_push_X2_copyFrom rfl rfl rfl (by decide +kernel) ⟨Nat.le_of_ble_eq_true rfl, Nat.le_of_ble_eq_true rfl⟩) ⟨cP_blind, va_recv hK hPc (ci := 1) (q0 := 0) rfl rfl, cP_ok hPc hK hE⟩ rfl rfl hl.1 rfl (lv_room (Nat.le_of_ble_eq_true rfl)) dX10_push_16 ⟨Nat.zero_le _, Nat.zero_le _⟩) hP (gD_va hD rfl) hS [20, 21, 22, 23, 24, 25, 26, 27, 28, 38, 39, 40, 41, 42, 43, 44, 45, 46] rfl (fun _ => rfl) (fun u14 H locs hw hP hS => ?_)
        have hP : va_P (dC, dI) vwCl (uw qu cI cB (usb u 2 u14.1) ++ bw qb cI u14.2) H := hP
        have hf := lt_eq hw hf
        exact J_19 (usb u 2 u14.1) u14.2 _ _ hP hS _ (lv_sub hl [1] rfl) hf
      · have hf := ie_eq c11 hf
        have hok := ie_ok c11 hok
        obtain ⟨c15, hok⟩ := hok
        refine g_aaldK (D := (dC, dI)) (tys := (tYS cI cB cO cL)) (k := 3) (x := qu 29) hx hb hK hP 1 1 rfl rfl (by rw [c15]; rfl) (by rw [c15]; decide) (by decide) rfl dX10_push_8 ?_
        refine lv_astore_n (lv' := [(2, .ref (qu 29)), (0, .ref (qu 0)), (1, .ref (qb 0))]) hx hb dX10_push_9 rfl hl (by decide) rfl (fun ls hl => ?_)
        refine lv_aload_n hx hb dX10_push_10 rfl (lv_at hl 0 rfl) ?_
        refine lv_ifnull hx hb dX10_push_11 ?_
        refine lv_aload_n hx hb dX10_push_14 rfl (lv_at hl 0 rfl) ?_
        refine lv_aload_n hx hb dX10_push_15 rfl (lv_at hl 2 rfl) ?_
        have h16 : kX2_copyFrom (u.2 3) b := hok
        have hPc := hP.sub (ws' := bw (ush qu 29) cI (u.2 3) ++ bw qb cI b) [29, 30, 31, 32, 33, 34, 35, 36, 37, 38, 39, 40, 41, 42, 43, 44, 45, 46] rfl
        refine gmu_v (va_runV (As := [.ref (qb 0)]) (rest := []) ⟨hx, hb, hml, hown, hts⟩ (mX2_copyFrom l dC dI cI cB cO cL (ush qu 29) qb (u.2 3) b (gD_subT hD [29, 30, 31, 32, 33, 34, 35, 36, 37, 38, 39, 40, 41, 42, 43, 44, 45, 46] rfl rfl) h16) (cwV 1 hts gX10_push_X2_copyFrom rfl rfl rfl (by decide +kernel) ⟨Nat.le_of_ble_eq_true rfl, Nat.le_of_ble_eq_true rfl⟩) ⟨cP_blind, va_recv hK hPc (ci := 1) (q0 := 0) rfl rfl, cP_ok hPc hK hE⟩ rfl rfl hl.1 rfl (lv_room (Nat.le_of_ble_eq_true rfl)) dX10_push_16 ⟨Nat.zero_le _, Nat.zero_le _⟩) hP (gD_va hD rfl) hS [29, 30, 31, 32, 33, 34, 35, 36, 37, 38, 39, 40, 41, 42, 43, 44, 45, 46] rfl (fun _ => rfl) (fun u18 H locs hw hP hS => ?_)
        have hP : va_P (dC, dI) vwCl (uw qu cI cB (usb u 3 u18.1) ++ bw qb cI u18.2) H := hP
        have hf := lt_eq hw hf
        exact J_19 (usb u 3 u18.1) u18.2 _ _ hP hS _ (lv_sub hl [1] rfl) hf
noncomputable def pX10_pop (u : US) (b : BS) : US × BS := if (u.1 1) = 0 then ((u, b)) else (lt (usi u 0 ((((u.1 0) + 4) - 1) - (((u.1 0) + 4) - 1) / 4 * 4)) fun (u_2 : US) => lt (usi u_2 1 ((u_2.1 1) - 1)) fun (u_3 : US) => if (u_3.1 0) = 0 then (lt (pX2_copyFrom b (u_3.2 0)) fun (u7 : BS × BS) => (usb u_3 0 u7.2, u7.1)) else (if (u_3.1 0) = 1 then (lt (pX2_copyFrom b (u_3.2 1)) fun (u11 : BS × BS) => (usb u_3 1 u11.2, u11.1)) else (if (u_3.1 0) = 2 then (lt (pX2_copyFrom b (u_3.2 2)) fun (u15 : BS × BS) => (usb u_3 2 u15.2, u15.1)) else (lt (pX2_copyFrom b (u_3.2 3)) fun (u19 : BS × BS) => (usb u_3 3 u19.2, u19.1)))))
def kX10_pop (u : US) (b : BS) : Prop := if (u.1 1) = 0 then (True) else (lt (usi u 0 ((((u.1 0) + 4) - 1) - (((u.1 0) + 4) - 1) / 4 * 4)) fun (u_2 : US) => lt (usi u_2 1 ((u_2.1 1) - 1)) fun (u_3 : US) => if (u_3.1 0) = 0 then (kX2_copyFrom b (u_3.2 0)) else (if (u_3.1 0) = 1 then (kX2_copyFrom b (u_3.2 1)) else (if (u_3.1 0) = 2 then (kX2_copyFrom b (u_3.2 2)) else (((u_3.1 0) = 3) ∧ (kX2_copyFrom b (u_3.2 3))))))
abbrev rX10_pop : Room := { frames := 3, cells := 0, slots := 0, locals := 82 }
set_option maxHeartbeats 4000000 in
set_option maxRecDepth 100000 in
theorem mX10_pop (l : Launch) (dC : Nat → ClassId) (dI : Nat → Nat → Nat) (cI cB cO cL : ClassId) (qu : Nat → Nat) (qb : Nat → Nat) (u : US) (b : BS) (hI : gD (fun _ => True) (uAd qu ++ bAd qb)) (hok : kX10_pop u b) : Met l yX10_pop wsX10_pop rX10_pop (cP (dC, dI) (tYS cI cB cO cL) (uw qu cI cB u ++ bw qb cI b) [.ref (qu 0), .ref (qb 0)]) (gQv (dC, dI) (fun z9 : US × BS => uw qu cI cB z9.1 ++ bw qb cI z9.2) (wA (uw qu cI cB u ++ bw qb cI b)) (pX10_pop u b)) 0 0 (wA (uw qu cI cB u ++ bw qb cI b)) := by
  refine cMet (cc := cX10_pop) (maxL := 3) (ret := none) [(0, .ref (qu 0)), (1, .ref (qb 0))] (by decide) rfl rfl rfl ?_
  intro p e s mi below meth c C0 hK hE hP ls hl
  obtain ⟨hx, hb, hr, hml, hown, hts, hlocks⟩ := id C0
  have hown : s.vm.findClass RX10 = some mi.cls := hown
  have hS : va_S (wA (uw qu cI cB u ++ bw qb cI b)) s.heap s.heap [] := va_S.rf
  have hD : gD (wA (uw qu cI cB u ++ bw qb cI b)) (uAd qu ++ bAd qb) := gD_wA (ws := uw qu cI cB u ++ bw qb cI b) hI
  have hP : va_P (dC, dI) vwCl (uw qu cI cB u ++ bw qb cI b) s.heap := hP
  obtain ⟨F, hF⟩ : ∃ F, F = pX10_pop u b := ⟨_, rfl⟩
  have hf := hF
  have hin10 : ∀ w ∈ u_ws RX10 TX10 3, w ∈ wsX10_pop := by decide +kernel
  have fl21 := hts (.fieldLink RX10 21 "ClickBench$UndoStack" "depth" "I") (by decide +kernel)
  have fl17 := hts (.fieldLink RX10 17 "ClickBench$UndoStack" "next" "I") (by decide +kernel)
  have fl11 := hts (.fieldLink RX10 11 "ClickBench$UndoStack" "ring" "[LClickBench$Bench;") (by decide +kernel)
  refine lv_aload_n hx hb dX10_pop_0 rfl (lv_at hl 0 rfl) ?_
  refine va_get (D := (dC, dI)) (ci := 7) (v := .int (u.1 1)) (C := RX10) (T := TX10) (N := 3) hx hb hts hin10 hown hK hP 0 rfl rfl 2 (by decide) fl21 (fun _ h9 => h9) rfl dX10_pop_1 ?_
  refine lv_if_ne (tgt := 8) hx hb dX10_pop_4 (by decide) (fun c1 => ?_) (fun c1 => ?_)
  · have hf := ie_eq c1 hf
    have hok := ie_ok c1 hok
    refine lv_aload_n hx hb dX10_pop_8 rfl (lv_at hl 0 rfl) ?_
    refine lv_aload_n hx hb dX10_pop_9 rfl (lv_at hl 0 rfl) ?_
    refine va_get (D := (dC, dI)) (ci := 7) (v := .int (u.1 0)) (C := RX10) (T := TX10) (N := 3) hx hb hts hin10 hown hK hP 0 rfl rfl 1 (by decide) fl17 (fun _ h9 => h9) rfl dX10_pop_10 ?_
    refine lv_iconst (v := 4) hx hb dX10_pop_13 (by decide) ?_
    refine lv_iadd hx hb dX10_pop_14 ?_
    refine lv_iconst (v := 1) hx hb dX10_pop_15 (by decide) ?_
    refine lv_isub hx hb dX10_pop_16 ?_
    refine lv_iconst (v := 4) hx hb dX10_pop_17 (by decide) ?_
    refine lv_irem hx hb dX10_pop_18 (by decide) ?_
    refine va_put (D := (dC, dI)) (ci := 7) (v := .int ((((u.1 0) + 4) - 1) - (((u.1 0) + 4) - 1) / 4 * 4)) (ty := .int) (C := RX10) (T := TX10) (N := 3) hx hb hts hin10 tyX10 tyX10_ok nmX10 hown hK hP (gD_va hD rfl) hS 0 rfl rfl 1 (by decide) fl17 (fun _ h9 => h9) rfl (by decide +kernel) rfl rfl (Nat.le_of_ble_eq_true rfl) dX10_pop_19 (fun H locs hP _ hS => ?_)
    obtain ⟨u_2, eu_2⟩ : ∃ z9 : US, z9 = usi u 0 ((((u.1 0) + 4) - 1) - (((u.1 0) + 4) - 1) / 4 * 4) := ⟨_, rfl⟩
    have hP : va_P (dC, dI) vwCl (uw qu cI cB u_2 ++ bw qb cI b) H := by rw [eu_2]; exact hP
    have hf := lt_eq eu_2 hf
    have hok := lt_ok eu_2 hok
    refine lv_aload_n hx hb dX10_pop_22 rfl (lv_at hl 0 rfl) ?_
    refine lv_dup hx hb dX10_pop_23 rfl ?_
    refine va_get (D := (dC, dI)) (ci := 7) (v := .int (u_2.1 1)) (C := RX10) (T := TX10) (N := 3) hx hb hts hin10 hown hK hP 0 rfl rfl 2 (by decide) fl21 (fun _ h9 => h9) rfl dX10_pop_24 ?_
    refine lv_iconst (v := 1) hx hb dX10_pop_27 (by decide) ?_
    refine lv_isub hx hb dX10_pop_28 ?_
    refine va_put (D := (dC, dI)) (ci := 7) (v := .int ((u_2.1 1) - 1)) (ty := .int) (C := RX10) (T := TX10) (N := 3) hx hb hts hin10 tyX10 tyX10_ok nmX10 hown hK hP (gD_va hD rfl) hS 0 rfl rfl 2 (by decide) fl21 (fun _ h9 => h9) rfl (by decide +kernel) rfl rfl (Nat.le_of_ble_eq_true rfl) dX10_pop_29 (fun H locs hP _ hS => ?_)
    obtain ⟨u_3, eu_3⟩ : ∃ z9 : US, z9 = usi u_2 1 ((u_2.1 1) - 1) := ⟨_, rfl⟩
    have hP : va_P (dC, dI) vwCl (uw qu cI cB u_3 ++ bw qb cI b) H := by rw [eu_3]; exact hP
    have hf := lt_eq eu_3 hf
    have hok := lt_ok eu_3 hok
    refine lv_aload_n hx hb dX10_pop_32 rfl (lv_at hl 0 rfl) ?_
    refine va_get (D := (dC, dI)) (ci := 7) (v := .ref (qu 1)) (C := RX10) (T := TX10) (N := 3) hx hb hts hin10 hown hK hP 0 rfl rfl 0 (by decide) fl11 (fun _ h9 => h9) rfl dX10_pop_33 ?_
    refine lv_aload_n hx hb dX10_pop_36 rfl (lv_at hl 0 rfl) ?_
    refine va_get (D := (dC, dI)) (ci := 7) (v := .int (u_3.1 0)) (C := RX10) (T := TX10) (N := 3) hx hb hts hin10 hown hK hP 0 rfl rfl 1 (by decide) fl17 (fun _ h9 => h9) rfl dX10_pop_37 ?_
    by_cases c4 : (u_3.1 0) = 0
    · have hf := it_eq c4 hf
      have hok := it_ok c4 hok
      refine g_aaldK (D := (dC, dI)) (tys := (tYS cI cB cO cL)) (k := 0) (x := qu 2) hx hb hK hP 1 1 rfl rfl (by rw [c4]; rfl) (by rw [c4]; decide) (by decide) rfl dX10_pop_40 ?_
      refine lv_astore_n (lv' := [(2, .ref (qu 2)), (0, .ref (qu 0)), (1, .ref (qb 0))]) hx hb dX10_pop_41 rfl hl (by decide) rfl (fun ls hl => ?_)
      refine lv_aload_n hx hb dX10_pop_42 rfl (lv_at hl 0 rfl) ?_
      refine lv_ifnull hx hb dX10_pop_43 ?_
      refine lv_aload_n hx hb dX10_pop_46 rfl (lv_at hl 2 rfl) ?_
      refine lv_aload_n hx hb dX10_pop_47 rfl (lv_at hl 0 rfl) ?_
      have h5 : kX2_copyFrom b (u_3.2 0) := hok
      have hPc := hP.sub (ws' := bw qb cI b ++ bw (ush qu 2) cI (u_3.2 0)) [38, 39, 40, 41, 42, 43, 44, 45, 46, 2, 3, 4, 5, 6, 7, 8, 9, 10] rfl
      refine gmu_v (va_runV (As := [.ref (qu 2)]) (rest := []) ⟨hx, hb, hml, hown, hts⟩ (mX2_copyFrom l dC dI cI cB cO cL qb (ush qu 2) b (u_3.2 0) (gD_subT hD [38, 39, 40, 41, 42, 43, 44, 45, 46, 2, 3, 4, 5, 6, 7, 8, 9, 10] rfl rfl) h5) (cwV 1 hts gX10_pop_X2_copyFrom rfl rfl rfl (by decide +kernel) ⟨Nat.le_of_ble_eq_true rfl, Nat.le_of_ble_eq_true rfl⟩) ⟨cP_blind, va_recv hK hPc (ci := 1) (q0 := 0) rfl rfl, cP_ok hPc hK hE⟩ rfl rfl hl.1 rfl (lv_room (Nat.le_of_ble_eq_true rfl)) dX10_pop_48 ⟨Nat.zero_le _, Nat.zero_le _⟩) hP (gD_va hD rfl) hS [38, 39, 40, 41, 42, 43, 44, 45, 46, 2, 3, 4, 5, 6, 7, 8, 9, 10] rfl (fun _ => rfl) (fun u7 H locs hw hP hS => ?_)
      have hP : va_P (dC, dI) vwCl (uw qu cI cB (usb u_3 0 u7.2) ++ bw qb cI u7.1) H := hP
      have hf := lt_eq hw hf
      exact e_mv C0 (hf.symm.trans hF) hP hS dX10_pop_51
    · have hf := ie_eq c4 hf
      have hok := ie_ok c4 hok
      by_cases c8 : (u_3.1 0) = 1
      · have hf := it_eq c8 hf
        have hok := it_ok c8 hok
        refine g_aaldK (D := (dC, dI)) (tys := (tYS cI cB cO cL)) (k := 1) (x := qu 11) hx hb hK hP 1 1 rfl rfl (by rw [c8]; rfl) (by rw [c8]; decide) (by decide) rfl dX10_pop_40 ?_
        refine lv_astore_n (lv' := [(2, .ref (qu 11)), (0, .ref (qu 0)), (1, .ref (qb 0))]) hx hb dX10_pop_41 rfl hl (by decide) rfl (fun ls hl => ?_)
        refine lv_aload_n hx hb dX10_pop_42 rfl (lv_at hl 0 rfl) ?_
        refine lv_ifnull hx hb dX10_pop_43 ?_
        refine lv_aload_n hx hb dX10_pop_46 rfl (lv_at hl 2 rfl) ?_
        refine lv_aload_n hx hb dX10_pop_47 rfl (lv_at hl 0 rfl) ?_
        have h9 : kX2_copyFrom b (u_3.2 1) := hok
        have hPc := hP.sub (ws' := bw qb cI b ++ bw (ush qu 11) cI (u_3.2 1)) [38, 39, 40, 41, 42, 43, 44, 45, 46, 11, 12, 13, 14, 15, 16, 17, 18, 19] rfl
        refine gmu_v (va_runV (As := [.ref (qu 11)]) (rest := []) ⟨hx, hb, hml, hown, hts⟩ (mX2_copyFrom l dC dI cI cB cO cL qb (ush qu 11) b (u_3.2 1) (gD_subT hD [38, 39, 40, 41, 42, 43, 44, 45, 46, 11, 12, 13, 14, 15, 16, 17, 18, 19] rfl rfl) h9) (cwV 1 hts gX10_pop_X2_copyFrom rfl rfl rfl (by decide +kernel) ⟨Nat.le_of_ble_eq_true rfl, Nat.le_of_ble_eq_true rfl⟩) ⟨cP_blind, va_recv hK hPc (ci := 1) (q0 := 0) rfl rfl, cP_ok hPc hK hE⟩ rfl rfl hl.1 rfl (lv_room (Nat.le_of_ble_eq_true rfl)) dX10_pop_48 ⟨Nat.zero_le _, Nat.zero_le _⟩) hP (gD_va hD rfl) hS [38, 39, 40, 41, 42, 43, 44, 45, 46, 11, 12, 13, 14, 15, 16, 17, 18, 19] rfl (fun _ => rfl) (fun u11 H locs hw hP hS => ?_)
        have hP : va_P (dC, dI) vwCl (uw qu cI cB (usb u_3 1 u11.2) ++ bw qb cI u11.1) H := hP
        have hf := lt_eq hw hf
        exact e_mv C0 (hf.symm.trans hF) hP hS dX10_pop_51
      · have hf := ie_eq c8 hf
        have hok := ie_ok c8 hok
        by_cases c12 : (u_3.1 0) = 2
        · have hf := it_eq c12 hf
          have hok := it_ok c12 hok
          refine g_aaldK (D := (dC, dI)) (tys := (tYS cI cB cO cL)) (k := 2) (x := qu 20) hx hb hK hP 1 1 rfl rfl (by rw [c12]; rfl) (by rw [c12]; decide) (by decide) rfl dX10_pop_40 ?_
          refine lv_astore_n (lv' := [(2, .ref (qu 20)), (0, .ref (qu 0)), (1, .ref (qb 0))]) hx hb dX10_pop_41 rfl hl (by decide) rfl (fun ls hl => ?_)
          refine lv_aload_n hx hb dX10_pop_42 rfl (lv_at hl 0 rfl) ?_
          refine lv_ifnull hx hb dX10_pop_43 ?_
          refine lv_aload_n hx hb dX10_pop_46 rfl (lv_at hl 2 rfl) ?_
          refine lv_aload_n hx hb dX10_pop_47 rfl (lv_at hl 0 rfl) ?_
          have h13 : kX2_copyFrom b (u_3.2 2) := hok
          have hPc := hP.sub (ws' := bw qb cI b ++ bw (ush qu 20) cI (u_3.2 2)) [38, 39, 40, 41, 42, 43, 44, 45, 46, 20, 21, 22, 23, 24, 25, 26, 27, 28] rfl
          refine gmu_v (va_runV (As := [.ref (qu 20)]) (rest := []) ⟨hx, hb, hml, hown, hts⟩ (mX2_copyFrom l dC dI cI cB cO cL qb (ush qu 20) b (u_3.2 2) (gD_subT hD [38, 39, 40, 41, 42, 43, 44, 45, 46, 20, 21, 22, 23, 24, 25, 26, 27, 28] rfl rfl) h13) (cwV 1 hts gX10_pop_X2_copyFrom rfl rfl rfl (by decide +kernel) ⟨Nat.le_of_ble_eq_true rfl, Nat.le_of_ble_eq_true rfl⟩) ⟨cP_blind, va_recv hK hPc (ci := 1) (q0 := 0) rfl rfl, cP_ok hPc hK hE⟩ rfl rfl hl.1 rfl (lv_room (Nat.le_of_ble_eq_true rfl)) dX10_pop_48 ⟨Nat.zero_le _, Nat.zero_le _⟩) hP (gD_va hD rfl) hS [38, 39, 40, 41, 42, 43, 44, 45, 46, 20, 21, 22, 23, 24, 25, 26, 27, 28] rfl (fun _ => rfl) (fun u15 H locs hw hP hS => ?_)
          have hP : va_P (dC, dI) vwCl (uw qu cI cB (usb u_3 2 u15.2) ++ bw qb cI u15.1) H := hP
          have hf := lt_eq hw hf
          exact e_mv C0 (hf.symm.trans hF) hP hS dX10_pop_51
        · have hf := ie_eq c12 hf
          have hok := ie_ok c12 hok
          obtain ⟨c16, hok⟩ := hok
          refine g_aaldK (D := (dC, dI)) (tys := (tYS cI cB cO cL)) (k := 3) (x := qu 29) hx hb hK hP 1 1 rfl rfl (by rw [c16]; rfl) (by rw [c16]; decide) (by decide) rfl dX10_pop_40 ?_
          refine lv_astore_n (lv' := [(2, .ref (qu 29)), (0, .ref (qu 0)), (1, .ref (qb 0))]) hx hb dX10_pop_41 rfl hl (by decide) rfl (fun ls hl => ?_)
          refine lv_aload_n hx hb dX10_pop_42 rfl (lv_at hl 0 rfl) ?_
          refine lv_ifnull hx hb dX10_pop_43 ?_
          refine lv_aload_n hx hb dX10_pop_46 rfl (lv_at hl 2 rfl) ?_
          refine lv_aload_n hx hb dX10_pop_47 rfl (lv_at hl 0 rfl) ?_
          have h17 : kX2_copyFrom b (u_3.2 3) := hok
          have hPc := hP.sub (ws' := bw qb cI b ++ bw (ush qu 29) cI (u_3.2 3)) [38, 39, 40, 41, 42, 43, 44, 45, 46, 29, 30, 31, 32, 33, 34, 35, 36, 37] rfl
          refine gmu_v (va_runV (As := [.ref (qu 29)]) (rest := []) ⟨hx, hb, hml, hown, hts⟩ (mX2_copyFrom l dC dI cI cB cO cL qb (ush qu 29) b (u_3.2 3) (gD_subT hD [38, 39, 40, 41, 42, 43, 44, 45, 46, 29, 30, 31, 32, 33, 34, 35, 36, 37] rfl rfl) h17) (cwV 1 hts gX10_pop_X2_copyFrom rfl rfl rfl (by decide +kernel) ⟨Nat.le_of_ble_eq_true rfl, Nat.le_of_ble_eq_true rfl⟩) ⟨cP_blind, va_recv hK hPc (ci := 1) (q0 := 0) rfl rfl, cP_ok hPc hK hE⟩ rfl rfl hl.1 rfl (lv_room (Nat.le_of_ble_eq_true rfl)) dX10_pop_48 ⟨Nat.zero_le _, Nat.zero_le _⟩) hP (gD_va hD rfl) hS [38, 39, 40, 41, 42, 43, 44, 45, 46, 29, 30, 31, 32, 33, 34, 35, 36, 37] rfl (fun _ => rfl) (fun u19 H locs hw hP hS => ?_)
          have hP : va_P (dC, dI) vwCl (uw qu cI cB (usb u_3 3 u19.2) ++ bw qb cI u19.1) H := hP
          have hf := lt_eq hw hf
          exact e_mv C0 (hf.symm.trans hF) hP hS dX10_pop_51
  · have hf := it_eq c1 hf
    exact e_mv C0 (hf.symm.trans hF) hP hS dX10_pop_7
