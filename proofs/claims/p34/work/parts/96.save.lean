abbrev rX11_saveState : Room := { frames := 4, cells := 0, slots := 0, locals := 104 }
set_option maxHeartbeats 4000000 in
set_option maxRecDepth 100000 in
theorem mX11_saveState (l : Launch) (dC : Nat → ClassId) (dI : Nat → Nat → Nat) (cI cB cO cL : ClassId) (qb : Nat → Nat) (qs : Nat → Nat) (qu : Nat → Nat) (qk : Nat → Nat) (qr : Nat → Nat) (qe : Nat → Nat) (qx : Nat → Nat) (qd : Nat → Nat) (b : BS) (s9 : SS) (u : US) (kk : Int32) (hI : gD (fun _ => True) (bAd qb ++ sAd qs ++ uAd qu ++ kAd qk)) (hok : kX11_saveState b s9 u kk) : Met l yX11_saveState wsX11_saveState rX11_saveState (cP (dC, dI) (tYS cI cB cO cL) (bw qb cI b ++ sw qs cI s9 ++ uw qu cI cB u ++ kw qk qb qr qe qs qu qx qd cI kk) [.ref (qk 0)]) (gQv (dC, dI) (fun z9 : BS × SS × US × Int32 => bw qb cI z9.1 ++ sw qs cI z9.2.1 ++ uw qu cI cB z9.2.2.1 ++ kw qk qb qr qe qs qu qx qd cI z9.2.2.2) (wA (bw qb cI b ++ sw qs cI s9 ++ uw qu cI cB u ++ kw qk qb qr qe qs qu qx qd cI kk)) (pX11_saveState b s9 u kk)) 0 0 (wA (bw qb cI b ++ sw qs cI s9 ++ uw qu cI cB u ++ kw qk qb qr qe qs qu qx qd cI kk)) := by
  refine cMet (cc := cX11_saveState) (maxL := 1) (ret := none) [(0, .ref (qk 0))] (by decide) rfl rfl rfl ?_
  intro p e s mi below meth c C0 hK hE hP ls hl
  obtain ⟨hx, hb, hr, hml, hown, hts, hlocks⟩ := id C0
  have hown : s.vm.findClass RX11 = some mi.cls := hown
  have hS : va_S (wA (bw qb cI b ++ sw qs cI s9 ++ uw qu cI cB u ++ kw qk qb qr qe qs qu qx qd cI kk)) s.heap s.heap [] := va_S.rf
  have hD : gD (wA (bw qb cI b ++ sw qs cI s9 ++ uw qu cI cB u ++ kw qk qb qr qe qs qu qx qd cI kk)) (bAd qb ++ sAd qs ++ uAd qu ++ kAd qk) := gD_wA (ws := bw qb cI b ++ sw qs cI s9 ++ uw qu cI cB u ++ kw qk qb qr qe qs qu qx qd cI kk) hI
  have hP : va_P (dC, dI) vwCl (bw qb cI b ++ sw qs cI s9 ++ uw qu cI cB u ++ kw qk qb qr qe qs qu qx qd cI kk) s.heap := hP
  obtain ⟨F, hF⟩ : ∃ F, F = pX11_saveState b s9 u kk := ⟨_, rfl⟩
  have hf := hF
  have hin11 : ∀ w ∈ u_ws RX11 TX11 8, w ∈ wsX11_saveState := by decide +kernel
  have fl40 := hts (.fieldLink RX11 40 "ClickBench" "saved" "LClickBench$UndoStack;") (by decide +kernel)
  have fl10 := hts (.fieldLink RX11 10 "ClickBench" "bench" "LClickBench$Bench;") (by decide +kernel)
  have fl33 := hts (.fieldLink RX11 33 "ClickBench" "survey" "LClickBench$Survey;") (by decide +kernel)
  refine lv_aload_n hx hb dX11_saveState_0 rfl (lv_at hl 0 rfl) ?_
  refine va_get (D := (dC, dI)) (ci := 8) (v := .ref (qu 0)) (C := RX11) (T := TX11) (N := 8) hx hb hts hin11 hown hK hP 52 rfl rfl 4 (by decide) fl40 (fun _ h9 => h9) rfl dX11_saveState_1 ?_
  refine lv_aload_n hx hb dX11_saveState_4 rfl (lv_at hl 0 rfl) ?_
  refine va_get (D := (dC, dI)) (ci := 8) (v := .ref (qb 0)) (C := RX11) (T := TX11) (N := 8) hx hb hts hin11 hown hK hP 52 rfl rfl 0 (by decide) fl10 (fun _ h9 => h9) rfl dX11_saveState_5 ?_
  have h1 : kX10_push u b := hok
  have hPc := hP.sub (ws' := uw qu cI cB u ++ bw qb cI b) [14, 15, 16, 17, 18, 19, 20, 21, 22, 23, 24, 25, 26, 27, 28, 29, 30, 31, 32, 33, 34, 35, 36, 37, 38, 39, 40, 41, 42, 43, 44, 45, 46, 47, 48, 49, 50, 51, 0, 1, 2, 3, 4, 5, 6, 7, 8] rfl
  refine gmu_v (va_runV (As := [.ref (qb 0)]) (rest := []) ⟨hx, hb, hml, hown, hts⟩ (mX10_push l dC dI cI cB cO cL qu qb u b (gD_subT hD [14, 15, 16, 17, 18, 19, 20, 21, 22, 23, 24, 25, 26, 27, 28, 29, 30, 31, 32, 33, 34, 35, 36, 37, 38, 39, 40, 41, 42, 43, 44, 45, 46, 47, 48, 49, 50, 51, 0, 1, 2, 3, 4, 5, 6, 7, 8] rfl rfl) h1) (cwV 1 hts gX11_saveState_X10_push rfl rfl rfl (by decide +kernel) ⟨Nat.le_of_ble_eq_true rfl, Nat.le_of_ble_eq_true rfl⟩) ⟨cP_blind, va_recv hK hPc (ci := 7) (q0 := 0) rfl rfl, cP_ok hPc hK hE⟩ rfl rfl hl.1 rfl (lv_room (Nat.le_of_ble_eq_true rfl)) dX11_saveState_8 ⟨Nat.zero_le _, Nat.zero_le _⟩) hP (gD_va hD rfl) hS [14, 15, 16, 17, 18, 19, 20, 21, 22, 23, 24, 25, 26, 27, 28, 29, 30, 31, 32, 33, 34, 35, 36, 37, 38, 39, 40, 41, 42, 43, 44, 45, 46, 47, 48, 49, 50, 51, 0, 1, 2, 3, 4, 5, 6, 7, 8] rfl (fun _ => rfl) (fun u3 H locs hw hP hS => ?_)
  have hP : va_P (dC, dI) vwCl (bw qb cI u3.2 ++ sw qs cI s9 ++ uw qu cI cB u3.1 ++ kw qk qb qr qe qs qu qx qd cI kk) H := by
    have e09 : gpatch (bw qb cI b ++ sw qs cI s9 ++ uw qu cI cB u ++ kw qk qb qr qe qs qu qx qd cI kk) [14, 15, 16, 17, 18, 19, 20, 21, 22, 23, 24, 25, 26, 27, 28, 29, 30, 31, 32, 33, 34, 35, 36, 37, 38, 39, 40, 41, 42, 43, 44, 45, 46, 47, 48, 49, 50, 51] (uw qu cI cB u3.1) = bw qb cI b ++ sw qs cI s9 ++ uw qu cI cB u3.1 ++ kw qk qb qr qe qs qu qx qd cI kk := gpw_1_1 (bw qb cI b ++ sw qs cI s9) (uw qu cI cB u) (uw qu cI cB u3.1) (kw qk qb qr qe qs qu qx qd cI kk) [14, 15, 16, 17, 18, 19, 20, 21, 22, 23, 24, 25, 26, 27, 28, 29, 30, 31, 32, 33, 34, 35, 36, 37, 38, 39, 40, 41, 42, 43, 44, 45, 46, 47, 48, 49, 50, 51] rfl rfl
    have e19 : gpatch (bw qb cI b ++ sw qs cI s9 ++ uw qu cI cB u3.1 ++ kw qk qb qr qe qs qu qx qd cI kk) [0, 1, 2, 3, 4, 5, 6, 7, 8] (bw qb cI u3.2) = bw qb cI u3.2 ++ sw qs cI s9 ++ uw qu cI cB u3.1 ++ kw qk qb qr qe qs qu qx qd cI kk := gpw_0_3 (bw qb cI b) (bw qb cI u3.2) (sw qs cI s9) (uw qu cI cB u3.1) (kw qk qb qr qe qs qu qx qd cI kk) [0, 1, 2, 3, 4, 5, 6, 7, 8] rfl rfl
    have ea9 : gpatch (bw qb cI b ++ sw qs cI s9 ++ uw qu cI cB u ++ kw qk qb qr qe qs qu qx qd cI kk) [14, 15, 16, 17, 18, 19, 20, 21, 22, 23, 24, 25, 26, 27, 28, 29, 30, 31, 32, 33, 34, 35, 36, 37, 38, 39, 40, 41, 42, 43, 44, 45, 46, 47, 48, 49, 50, 51, 0, 1, 2, 3, 4, 5, 6, 7, 8] (uw qu cI cB u3.1 ++ bw qb cI u3.2) = gpatch (gpatch (bw qb cI b ++ sw qs cI s9 ++ uw qu cI cB u ++ kw qk qb qr qe qs qu qx qd cI kk) [14, 15, 16, 17, 18, 19, 20, 21, 22, 23, 24, 25, 26, 27, 28, 29, 30, 31, 32, 33, 34, 35, 36, 37, 38, 39, 40, 41, 42, 43, 44, 45, 46, 47, 48, 49, 50, 51] (uw qu cI cB u3.1)) [0, 1, 2, 3, 4, 5, 6, 7, 8] (bw qb cI u3.2) := gpatch_app [14, 15, 16, 17, 18, 19, 20, 21, 22, 23, 24, 25, 26, 27, 28, 29, 30, 31, 32, 33, 34, 35, 36, 37, 38, 39, 40, 41, 42, 43, 44, 45, 46, 47, 48, 49, 50, 51] [0, 1, 2, 3, 4, 5, 6, 7, 8] (uw qu cI cB u3.1) (bw qb cI u3.2) (bw qb cI b ++ sw qs cI s9 ++ uw qu cI cB u ++ kw qk qb qr qe qs qu qx qd cI kk) rfl
    exact (congrArg (fun z9 => va_P (dC, dI) vwCl z9 H) (ea9.trans ((congrArg (fun z9 => gpatch z9 [0, 1, 2, 3, 4, 5, 6, 7, 8] (bw qb cI u3.2)) e09).trans e19))).mp hP
  have hf := lt_eq hw hf
  refine lv_aload_n hx hb dX11_saveState_11 rfl (lv_at hl 0 rfl) ?_
  refine va_get (D := (dC, dI)) (ci := 8) (v := .ref (qs 0)) (C := RX11) (T := TX11) (N := 8) hx hb hts hin11 hown hK hP 52 rfl rfl 3 (by decide) fl33 (fun _ h9 => h9) rfl dX11_saveState_12 ?_
  have hPc := hP.sub (ws' := sw qs cI s9) [9, 10, 11, 12, 13] rfl
  refine gmu_v (va_runV (As := []) (rest := []) ⟨hx, hb, hml, hown, hts⟩ (mX8_outdate l dC dI cI cB cO cL qs s9 (gD_subT hD [9, 10, 11, 12, 13] rfl rfl) ) (cwV 0 hts gX11_saveState_X8_outdate rfl rfl rfl (by decide +kernel) ⟨Nat.le_of_ble_eq_true rfl, Nat.le_of_ble_eq_true rfl⟩) ⟨cP_blind, va_recv hK hPc (ci := 5) (q0 := 0) rfl rfl, cP_ok hPc hK hE⟩ rfl rfl hl.1 rfl (lv_room (Nat.le_of_ble_eq_true rfl)) dX11_saveState_15 ⟨Nat.zero_le _, Nat.zero_le _⟩) hP (gD_va hD rfl) hS [9, 10, 11, 12, 13] rfl (fun _ => rfl) (fun u5 H locs hw hP hS => ?_)
  have hP : va_P (dC, dI) vwCl (bw qb cI u3.2 ++ sw qs cI u5 ++ uw qu cI cB u3.1 ++ kw qk qb qr qe qs qu qx qd cI kk) H := by
    have e09 : gpatch (bw qb cI u3.2 ++ sw qs cI s9 ++ uw qu cI cB u3.1 ++ kw qk qb qr qe qs qu qx qd cI kk) [9, 10, 11, 12, 13] (sw qs cI u5) = bw qb cI u3.2 ++ sw qs cI u5 ++ uw qu cI cB u3.1 ++ kw qk qb qr qe qs qu qx qd cI kk := gpw_1_2 (bw qb cI u3.2) (sw qs cI s9) (sw qs cI u5) (uw qu cI cB u3.1) (kw qk qb qr qe qs qu qx qd cI kk) [9, 10, 11, 12, 13] rfl rfl
    exact (congrArg (fun z9 => va_P (dC, dI) vwCl z9 H) e09).mp hP
  have hf := lt_eq hw hf
  exact e_mv C0 (hf.symm.trans hF) hP hS dX11_saveState_18
