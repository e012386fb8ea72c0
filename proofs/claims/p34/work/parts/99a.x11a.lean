abbrev rX11_begin : Room := { frames := 7, cells := 4, slots := 24, locals := 124 }
set_option maxHeartbeats 4000000 in
set_option maxRecDepth 100000 in
theorem mX11_begin (l : Launch) (hfl : l.stackTraces = false) (dC : Nat → ClassId) (dI : Nat → Nat → Nat) (cI cB cO cL : ClassId) (N0 : Nat) (sT eA : Nat → Nat) (qb : Nat → Nat) (qs : Nat → Nat) (qu : Nat → Nat) (qk : Nat → Nat) (qr : Nat → Nat) (qe : Nat → Nat) (qx : Nat → Nat) (qd : Nat → Nat) (b : BS) (s9 : SS) (u : US) (kk : Int32) (a1 : Int32) (a2 : Int32) (sz : Nat) (hsz : N0 ≤ sz) (hI : gD (fun _ => True) (bAd qb ++ sAd qs ++ uAd qu ++ kAd qk)) (hN9 : ∀ a ∈ (bAd qb ++ sAd qs ++ uAd qu ++ kAd qk : List Nat), N0 ≤ a) (hok : kX11_begin b s9 u kk a1 a2) : vx_Met l yX11_begin wsX11_begin rX11_begin (zP N0 sz sT eA (dC, dI) (tYS cI cB cO cL) (bw qb cI b ++ sw qs cI s9 ++ uw qu cI cB u ++ kw qk qb qr qe qs qu qx qd cI kk) [.ref (qk 0), .int a1, .int a2]) (yQi (dC, dI) (fun z9 : BS × SS × US × Int32 => bw qb cI z9.1 ++ sw qs cI z9.2.1 ++ uw qu cI cB z9.2.2.1 ++ kw qk qb qr qe qs qu qx qd cI z9.2.2.2) (va_A (bw qb cI b ++ sw qs cI s9 ++ uw qu cI cB u ++ kw qk qb qr qe qs qu qx qd cI kk) sz) (pX11_begin b s9 u kk a1 a2)) (yX (dC, dI) (fun z9 : BS × SS × US × Int32 => bw qb cI z9.1 ++ sw qs cI z9.2.1 ++ uw qu cI cB z9.2.2.1 ++ kw qk qb qr qe qs qu qx qd cI z9.2.2.2) (va_A (bw qb cI b ++ sw qs cI s9 ++ uw qu cI cB u ++ kw qk qb qr qe qs qu qx qd cI kk) sz) (pX11_begin b s9 u kk a1 a2)) 4 24 (va_A (bw qb cI b ++ sw qs cI s9 ++ uw qu cI cB u ++ kw qk qb qr qe qs qu qx qd cI kk) sz) := by
  refine zMet (cc := cX11_begin) (maxL := 3) (ret := some .int) [(0, .ref (qk 0)), (1, .int a1), (2, .int a2)] (by decide) rfl rfl rfl ?_
  intro p e s mi below meth c C0 htab hz hK hF hP ls hl
  obtain ⟨hx, hb, hr, hml, hown, hts, hlocks⟩ := id C0
  have hown : s.vm.findClass RX11 = some mi.cls := hown
  have hE := hF.1
  subst hz
  have hA0 : ∀ q : Nat, s.heap.size ≤ q → (va_A (bw qb cI b ++ sw qs cI s9 ++ uw qu cI cB u ++ kw qk qb qr qe qs qu qx qd cI kk) s.heap.size) q := fun q h => Or.inr h
  have hN : ∀ q : Nat, (va_A (bw qb cI b ++ sw qs cI s9 ++ uw qu cI cB u ++ kw qk qb qr qe qs qu qx qd cI kk) s.heap.size) q → N0 ≤ q := vA_N (ws := bw qb cI b ++ sw qs cI s9 ++ uw qu cI cB u ++ kw qk qb qr qe qs qu qx qd cI kk) hN9 hsz
  have hH := hF.2.2.narrow hN
  have hS : va_S (va_A (bw qb cI b ++ sw qs cI s9 ++ uw qu cI cB u ++ kw qk qb qr qe qs qu qx qd cI kk) s.heap.size) s.heap s.heap [] := va_S.rf
  have hD : gD (va_A (bw qb cI b ++ sw qs cI s9 ++ uw qu cI cB u ++ kw qk qb qr qe qs qu qx qd cI kk) s.heap.size) (bAd qb ++ sAd qs ++ uAd qu ++ kAd qk) := gD_vA (ws := bw qb cI b ++ sw qs cI s9 ++ uw qu cI cB u ++ kw qk qb qr qe qs qu qx qd cI kk) hI
  have hP : va_P (dC, dI) vwCl (bw qb cI b ++ sw qs cI s9 ++ uw qu cI cB u ++ kw qk qb qr qe qs qu qx qd cI kk) s.heap := hP
  obtain ⟨F, hFe⟩ : ∃ F, F = pX11_begin b s9 u kk a1 a2 := ⟨_, rfl⟩
  have hf := hFe
  have hin11 : ∀ w ∈ u_ws RX11 TX11 8, w ∈ wsX11_begin := by decide +kernel
  have fl10 := hts (.fieldLink RX11 10 "ClickBench" "bench" "LClickBench$Bench;") (by decide +kernel)
  refine lv_aload_n hx hb dX11_begin_0 rfl (lv_at hl 0 rfl) ?_
  refine va_get (D := (dC, dI)) (ci := 8) (v := .ref (qb 0)) (C := RX11) (T := TX11) (N := 8) hx hb hts hin11 hown hK hP 52 rfl rfl 0 (by decide) fl10 (fun _ h9 => h9) rfl dX11_begin_1 ?_
  refine lv_iload_n hx hb dX11_begin_4 rfl (lv_at hl 1 rfl) ?_
  refine lv_iload_n hx hb dX11_begin_5 rfl (lv_at hl 2 rfl) ?_
  have hPc := hP.sub (ws' := bw qb cI b) [0, 1, 2, 3, 4, 5, 6, 7, 8] rfl
  refine gro_i (va_runV (As := [.int a1, .int a2]) (rest := []) ⟨hx, hb, hml, hown, hts⟩ (mX2_refusalOfField l dC dI cI cB cO cL qb b a1 a2  ) (cwV 2 hts gX11_begin_X2_refusalOfField rfl rfl rfl (by decide +kernel) ⟨Nat.le_of_ble_eq_true rfl, Nat.le_of_ble_eq_true rfl⟩) ⟨cP_blind, va_recv hK hPc (ci := 1) (q0 := 0) rfl rfl, cP_ok hPc hK hE⟩ rfl rfl hl.1 rfl (lv_room (Nat.le_of_ble_eq_true rfl)) dX11_begin_6 ⟨Nat.le_of_ble_eq_true rfl, Nat.le_of_ble_eq_true rfl⟩) ?_
  refine x_callS (vx_runS (As := [.int (pX2_refusalOfField b a1 a2)]) (rest := []) ⟨hx, hb, hml, hown, hts⟩ (mX11_refuse l hfl dC dI cI cB cO cL N0 sT eA s.heap.size (Nat.le_trans hsz hS.1) (pX2_refusalOfField b a1 a2)) (va_cwS 1 hts gX11_begin_X11_refuse rfl rfl rfl (by decide +kernel) ⟨Nat.le_of_ble_eq_true rfl, Nat.le_of_ble_eq_true rfl⟩) ⟨zP_blind, zP_ok va_P_nil hK hF hS hN⟩ rfl rfl hl.1 rfl (lv_room (Nat.le_of_ble_eq_true rfl)) dX11_begin_9 ⟨Nat.le_of_ble_eq_true rfl, Nat.le_of_ble_eq_true rfl⟩) hP hS hA0 (fun hne q9 ce H locs hP hS hce hcv hcl => ?_) (fun h0 H locs hP hS => ?_)
  · exact x_out htab hlocks hne ((xb_1 hne hf).symm.trans hFe) hP hS hce hcv hcl rfl rfl
  · have hf := xb_0 h0 hf
    have hok := xk_0 h0 hok
    refine lv_aload_n hx hb dX11_begin_12 rfl (lv_at hl 0 rfl) ?_
    have h1 : kX11_saveState b s9 u kk := hok
    refine gms_v (va_runV (As := []) (rest := []) ⟨hx, hb, hml, hown, hts⟩ (mX11_saveState l dC dI cI cB cO cL qb qs qu qk qr qe qx qd b s9 u kk (gD_any hD) h1) (cwV 0 hts gX11_begin_X11_saveState rfl rfl rfl (by decide +kernel) ⟨Nat.le_of_ble_eq_true rfl, Nat.le_of_ble_eq_true rfl⟩) ⟨cP_blind, va_recv hK hP (ci := 8) (q0 := 52) rfl rfl, cP_ok hP hK hE⟩ rfl rfl hl.1 rfl (lv_room (Nat.le_of_ble_eq_true rfl)) dX11_begin_13 ⟨Nat.le_of_ble_eq_true rfl, Nat.le_of_ble_eq_true rfl⟩) hP (gD_va hD rfl) hS (fun u3 H locs hw hP hS => ?_)
    have hP : va_P (dC, dI) vwCl (bw qb cI u3.1 ++ sw qs cI u3.2.1 ++ uw qu cI cB u3.2.2.1 ++ kw qk qb qr qe qs qu qx qd cI u3.2.2.2) H := hP
    have hf := lt_eq hw hf
    refine lv_aload_n hx hb dX11_begin_16 rfl (lv_at hl 0 rfl) ?_
    refine va_get (D := (dC, dI)) (ci := 8) (v := .ref (qb 0)) (C := RX11) (T := TX11) (N := 8) hx hb hts hin11 hown hK hP 52 rfl rfl 0 (by decide) fl10 (fun _ h9 => h9) rfl dX11_begin_17 ?_
    refine lv_iload_n hx hb dX11_begin_20 rfl (lv_at hl 1 rfl) ?_
    refine lv_iload_n hx hb dX11_begin_21 rfl (lv_at hl 2 rfl) ?_
    have hPc := hP.sub (ws' := bw qb cI u3.1) [0, 1, 2, 3, 4, 5, 6, 7, 8] rfl
    refine gmu_i (va_runV (As := [.int a1, .int a2]) (rest := []) ⟨hx, hb, hml, hown, hts⟩ (mX2_startField l dC dI cI cB cO cL qb u3.1 a1 a2 (gD_subT hD [0, 1, 2, 3, 4, 5, 6, 7, 8] rfl rfl) ) (cwV 2 hts gX11_begin_X2_startField rfl rfl rfl (by decide +kernel) ⟨Nat.le_of_ble_eq_true rfl, Nat.le_of_ble_eq_true rfl⟩) ⟨cP_blind, va_recv hK hPc (ci := 1) (q0 := 0) rfl rfl, cP_ok hPc hK hE⟩ rfl rfl hl.1 rfl (lv_room (Nat.le_of_ble_eq_true rfl)) dX11_begin_22 ⟨Nat.le_of_ble_eq_true rfl, Nat.le_of_ble_eq_true rfl⟩) hP (gD_va hD rfl) hS [0, 1, 2, 3, 4, 5, 6, 7, 8] rfl (fun _ => rfl) (fun r4 u5 H locs hw hP hS => ?_)
    have hP : va_P (dC, dI) vwCl (bw qb cI u5 ++ sw qs cI u3.2.1 ++ uw qu cI cB u3.2.2.1 ++ kw qk qb qr qe qs qu qx qd cI u3.2.2.2) H := by
      have e09 : gpatch (bw qb cI u3.1 ++ sw qs cI u3.2.1 ++ uw qu cI cB u3.2.2.1 ++ kw qk qb qr qe qs qu qx qd cI u3.2.2.2) [0, 1, 2, 3, 4, 5, 6, 7, 8] (bw qb cI u5) = bw qb cI u5 ++ sw qs cI u3.2.1 ++ uw qu cI cB u3.2.2.1 ++ kw qk qb qr qe qs qu qx qd cI u3.2.2.2 := gpw_0_3 (bw qb cI u3.1) (bw qb cI u5) (sw qs cI u3.2.1) (uw qu cI cB u3.2.2.1) (kw qk qb qr qe qs qu qx qd cI u3.2.2.2) [0, 1, 2, 3, 4, 5, 6, 7, 8] rfl rfl
      exact (congrArg (fun z9 => va_P (dC, dI) vwCl z9 H) e09).mp hP
    have hf := bd_eq hw hf
    exact e_yi C0 (hf.symm.trans hFe) hP hS rfl rfl dX11_begin_25
abbrev rX11_addMicrophone : Room := { frames := 7, cells := 4, slots := 24, locals := 124 }
set_option maxHeartbeats 4000000 in
set_option maxRecDepth 100000 in
theorem mX11_addMicrophone (l : Launch) (hfl : l.stackTraces = false) (dC : Nat → ClassId) (dI : Nat → Nat → Nat) (cI cB cO cL : ClassId) (N0 : Nat) (sT eA : Nat → Nat) (qb : Nat → Nat) (qs : Nat → Nat) (qu : Nat → Nat) (qk : Nat → Nat) (qr : Nat → Nat) (qe : Nat → Nat) (qx : Nat → Nat) (qd : Nat → Nat) (b : BS) (s9 : SS) (u : US) (kk : Int32) (a1 : Int32) (a2 : Int32) (sz : Nat) (hsz : N0 ≤ sz) (hI : gD (fun _ => True) (bAd qb ++ sAd qs ++ uAd qu ++ kAd qk)) (hN9 : ∀ a ∈ (bAd qb ++ sAd qs ++ uAd qu ++ kAd qk : List Nat), N0 ≤ a) (hok : kX11_addMicrophone b s9 u kk a1 a2) : vx_Met l yX11_addMicrophone wsX11_addMicrophone rX11_addMicrophone (zP N0 sz sT eA (dC, dI) (tYS cI cB cO cL) (bw qb cI b ++ sw qs cI s9 ++ uw qu cI cB u ++ kw qk qb qr qe qs qu qx qd cI kk) [.ref (qk 0), .int a1, .int a2]) (yQi (dC, dI) (fun z9 : BS × SS × US × Int32 => bw qb cI z9.1 ++ sw qs cI z9.2.1 ++ uw qu cI cB z9.2.2.1 ++ kw qk qb qr qe qs qu qx qd cI z9.2.2.2) (va_A (bw qb cI b ++ sw qs cI s9 ++ uw qu cI cB u ++ kw qk qb qr qe qs qu qx qd cI kk) sz) (pX11_addMicrophone b s9 u kk a1 a2)) (yX (dC, dI) (fun z9 : BS × SS × US × Int32 => bw qb cI z9.1 ++ sw qs cI z9.2.1 ++ uw qu cI cB z9.2.2.1 ++ kw qk qb qr qe qs qu qx qd cI z9.2.2.2) (va_A (bw qb cI b ++ sw qs cI s9 ++ uw qu cI cB u ++ kw qk qb qr qe qs qu qx qd cI kk) sz) (pX11_addMicrophone b s9 u kk a1 a2)) 4 24 (va_A (bw qb cI b ++ sw qs cI s9 ++ uw qu cI cB u ++ kw qk qb qr qe qs qu qx qd cI kk) sz) := by
  refine zMet (cc := cX11_addMicrophone) (maxL := 3) (ret := some .int) [(0, .ref (qk 0)), (1, .int a1), (2, .int a2)] (by decide) rfl rfl rfl ?_
  intro p e s mi below meth c C0 htab hz hK hF hP ls hl
  obtain ⟨hx, hb, hr, hml, hown, hts, hlocks⟩ := id C0
  have hown : s.vm.findClass RX11 = some mi.cls := hown
  have hE := hF.1
  subst hz
  have hA0 : ∀ q : Nat, s.heap.size ≤ q → (va_A (bw qb cI b ++ sw qs cI s9 ++ uw qu cI cB u ++ kw qk qb qr qe qs qu qx qd cI kk) s.heap.size) q := fun q h => Or.inr h
  have hN : ∀ q : Nat, (va_A (bw qb cI b ++ sw qs cI s9 ++ uw qu cI cB u ++ kw qk qb qr qe qs qu qx qd cI kk) s.heap.size) q → N0 ≤ q := vA_N (ws := bw qb cI b ++ sw qs cI s9 ++ uw qu cI cB u ++ kw qk qb qr qe qs qu qx qd cI kk) hN9 hsz
  have hH := hF.2.2.narrow hN
  have hS : va_S (va_A (bw qb cI b ++ sw qs cI s9 ++ uw qu cI cB u ++ kw qk qb qr qe qs qu qx qd cI kk) s.heap.size) s.heap s.heap [] := va_S.rf
  have hD : gD (va_A (bw qb cI b ++ sw qs cI s9 ++ uw qu cI cB u ++ kw qk qb qr qe qs qu qx qd cI kk) s.heap.size) (bAd qb ++ sAd qs ++ uAd qu ++ kAd qk) := gD_vA (ws := bw qb cI b ++ sw qs cI s9 ++ uw qu cI cB u ++ kw qk qb qr qe qs qu qx qd cI kk) hI
  have hP : va_P (dC, dI) vwCl (bw qb cI b ++ sw qs cI s9 ++ uw qu cI cB u ++ kw qk qb qr qe qs qu qx qd cI kk) s.heap := hP
  obtain ⟨F, hFe⟩ : ∃ F, F = pX11_addMicrophone b s9 u kk a1 a2 := ⟨_, rfl⟩
  have hf := hFe
  have hin11 : ∀ w ∈ u_ws RX11 TX11 8, w ∈ wsX11_addMicrophone := by decide +kernel
  have fl10 := hts (.fieldLink RX11 10 "ClickBench" "bench" "LClickBench$Bench;") (by decide +kernel)
  refine lv_aload_n hx hb dX11_addMicrophone_0 rfl (lv_at hl 0 rfl) ?_
  refine va_get (D := (dC, dI)) (ci := 8) (v := .ref (qb 0)) (C := RX11) (T := TX11) (N := 8) hx hb hts hin11 hown hK hP 52 rfl rfl 0 (by decide) fl10 (fun _ h9 => h9) rfl dX11_addMicrophone_1 ?_
  refine lv_iload_n hx hb dX11_addMicrophone_4 rfl (lv_at hl 1 rfl) ?_
  refine lv_iload_n hx hb dX11_addMicrophone_5 rfl (lv_at hl 2 rfl) ?_
  have hPc := hP.sub (ws' := bw qb cI b) [0, 1, 2, 3, 4, 5, 6, 7, 8] rfl
  refine gro_i (va_runV (As := [.int a1, .int a2]) (rest := []) ⟨hx, hb, hml, hown, hts⟩ (mX2_refusalOfMicrophone l dC dI cI cB cO cL qb b a1 a2  ) (cwV 2 hts gX11_addMicrophone_X2_refusalOfMicrophone rfl rfl rfl (by decide +kernel) ⟨Nat.le_of_ble_eq_true rfl, Nat.le_of_ble_eq_true rfl⟩) ⟨cP_blind, va_recv hK hPc (ci := 1) (q0 := 0) rfl rfl, cP_ok hPc hK hE⟩ rfl rfl hl.1 rfl (lv_room (Nat.le_of_ble_eq_true rfl)) dX11_addMicrophone_6 ⟨Nat.le_of_ble_eq_true rfl, Nat.le_of_ble_eq_true rfl⟩) ?_
  refine x_callS (vx_runS (As := [.int (pX2_refusalOfMicrophone b a1 a2)]) (rest := []) ⟨hx, hb, hml, hown, hts⟩ (mX11_refuse l hfl dC dI cI cB cO cL N0 sT eA s.heap.size (Nat.le_trans hsz hS.1) (pX2_refusalOfMicrophone b a1 a2)) (va_cwS 1 hts gX11_addMicrophone_X11_refuse rfl rfl rfl (by decide +kernel) ⟨Nat.le_of_ble_eq_true rfl, Nat.le_of_ble_eq_true rfl⟩) ⟨zP_blind, zP_ok va_P_nil hK hF hS hN⟩ rfl rfl hl.1 rfl (lv_room (Nat.le_of_ble_eq_true rfl)) dX11_addMicrophone_9 ⟨Nat.le_of_ble_eq_true rfl, Nat.le_of_ble_eq_true rfl⟩) hP hS hA0 (fun hne q9 ce H locs hP hS hce hcv hcl => ?_) (fun h0 H locs hP hS => ?_)
  · exact x_out htab hlocks hne ((xb_1 hne hf).symm.trans hFe) hP hS hce hcv hcl rfl rfl
  · have hf := xb_0 h0 hf
    have hok := xk_0 h0 hok
    refine lv_aload_n hx hb dX11_addMicrophone_12 rfl (lv_at hl 0 rfl) ?_
    obtain ⟨h1, hok⟩ := hok
    refine gms_v (va_runV (As := []) (rest := []) ⟨hx, hb, hml, hown, hts⟩ (mX11_saveState l dC dI cI cB cO cL qb qs qu qk qr qe qx qd b s9 u kk (gD_any hD) h1) (cwV 0 hts gX11_addMicrophone_X11_saveState rfl rfl rfl (by decide +kernel) ⟨Nat.le_of_ble_eq_true rfl, Nat.le_of_ble_eq_true rfl⟩) ⟨cP_blind, va_recv hK hP (ci := 8) (q0 := 52) rfl rfl, cP_ok hP hK hE⟩ rfl rfl hl.1 rfl (lv_room (Nat.le_of_ble_eq_true rfl)) dX11_addMicrophone_13 ⟨Nat.le_of_ble_eq_true rfl, Nat.le_of_ble_eq_true rfl⟩) hP (gD_va hD rfl) hS (fun u3 H locs hw hP hS => ?_)
    have hP : va_P (dC, dI) vwCl (bw qb cI u3.1 ++ sw qs cI u3.2.1 ++ uw qu cI cB u3.2.2.1 ++ kw qk qb qr qe qs qu qx qd cI u3.2.2.2) H := hP
    have hf := lt_eq hw hf
    have hok := lt_ok hw hok
    refine lv_aload_n hx hb dX11_addMicrophone_16 rfl (lv_at hl 0 rfl) ?_
    refine va_get (D := (dC, dI)) (ci := 8) (v := .ref (qb 0)) (C := RX11) (T := TX11) (N := 8) hx hb hts hin11 hown hK hP 52 rfl rfl 0 (by decide) fl10 (fun _ h9 => h9) rfl dX11_addMicrophone_17 ?_
    refine lv_iload_n hx hb dX11_addMicrophone_20 rfl (lv_at hl 1 rfl) ?_
    refine lv_iload_n hx hb dX11_addMicrophone_21 rfl (lv_at hl 2 rfl) ?_
    have h4 : kX2_placeMicrophone u3.1 a1 a2 := hok
    have hPc := hP.sub (ws' := bw qb cI u3.1) [0, 1, 2, 3, 4, 5, 6, 7, 8] rfl
    refine gmu_i (va_runV (As := [.int a1, .int a2]) (rest := []) ⟨hx, hb, hml, hown, hts⟩ (mX2_placeMicrophone l dC dI cI cB cO cL qb u3.1 a1 a2 (gD_subT hD [0, 1, 2, 3, 4, 5, 6, 7, 8] rfl rfl) h4) (cwV 2 hts gX11_addMicrophone_X2_placeMicrophone rfl rfl rfl (by decide +kernel) ⟨Nat.le_of_ble_eq_true rfl, Nat.le_of_ble_eq_true rfl⟩) ⟨cP_blind, va_recv hK hPc (ci := 1) (q0 := 0) rfl rfl, cP_ok hPc hK hE⟩ rfl rfl hl.1 rfl (lv_room (Nat.le_of_ble_eq_true rfl)) dX11_addMicrophone_22 ⟨Nat.le_of_ble_eq_true rfl, Nat.le_of_ble_eq_true rfl⟩) hP (gD_va hD rfl) hS [0, 1, 2, 3, 4, 5, 6, 7, 8] rfl (fun _ => rfl) (fun r5 u6 H locs hw hP hS => ?_)
    have hP : va_P (dC, dI) vwCl (bw qb cI u6 ++ sw qs cI u3.2.1 ++ uw qu cI cB u3.2.2.1 ++ kw qk qb qr qe qs qu qx qd cI u3.2.2.2) H := by
      have e09 : gpatch (bw qb cI u3.1 ++ sw qs cI u3.2.1 ++ uw qu cI cB u3.2.2.1 ++ kw qk qb qr qe qs qu qx qd cI u3.2.2.2) [0, 1, 2, 3, 4, 5, 6, 7, 8] (bw qb cI u6) = bw qb cI u6 ++ sw qs cI u3.2.1 ++ uw qu cI cB u3.2.2.1 ++ kw qk qb qr qe qs qu qx qd cI u3.2.2.2 := gpw_0_3 (bw qb cI u3.1) (bw qb cI u6) (sw qs cI u3.2.1) (uw qu cI cB u3.2.2.1) (kw qk qb qr qe qs qu qx qd cI u3.2.2.2) [0, 1, 2, 3, 4, 5, 6, 7, 8] rfl rfl
      exact (congrArg (fun z9 => va_P (dC, dI) vwCl z9 H) e09).mp hP
    have hf := bd_eq hw hf
    exact e_yi C0 (hf.symm.trans hFe) hP hS rfl rfl dX11_addMicrophone_25
abbrev rX11_addWall : Room := { frames := 7, cells := 4, slots := 24, locals := 124 }
set_option maxHeartbeats 4000000 in
set_option maxRecDepth 100000 in
theorem mX11_addWall (l : Launch) (hfl : l.stackTraces = false) (dC : Nat → ClassId) (dI : Nat → Nat → Nat) (cI cB cO cL : ClassId) (N0 : Nat) (sT eA : Nat → Nat) (qb : Nat → Nat) (qs : Nat → Nat) (qu : Nat → Nat) (qk : Nat → Nat) (qr : Nat → Nat) (qe : Nat → Nat) (qx : Nat → Nat) (qd : Nat → Nat) (b : BS) (s9 : SS) (u : US) (kk : Int32) (a1 : Int32) (a2 : Int32) (a3 : Int32) (sz : Nat) (hsz : N0 ≤ sz) (hI : gD (fun _ => True) (bAd qb ++ sAd qs ++ uAd qu ++ kAd qk)) (hN9 : ∀ a ∈ (bAd qb ++ sAd qs ++ uAd qu ++ kAd qk : List Nat), N0 ≤ a) (hok : kX11_addWall b s9 u kk a1 a2 a3) : vx_Met l yX11_addWall wsX11_addWall rX11_addWall (zP N0 sz sT eA (dC, dI) (tYS cI cB cO cL) (bw qb cI b ++ sw qs cI s9 ++ uw qu cI cB u ++ kw qk qb qr qe qs qu qx qd cI kk) [.ref (qk 0), .int a1, .int a2, .int a3]) (yQi (dC, dI) (fun z9 : BS × SS × US × Int32 => bw qb cI z9.1 ++ sw qs cI z9.2.1 ++ uw qu cI cB z9.2.2.1 ++ kw qk qb qr qe qs qu qx qd cI z9.2.2.2) (va_A (bw qb cI b ++ sw qs cI s9 ++ uw qu cI cB u ++ kw qk qb qr qe qs qu qx qd cI kk) sz) (pX11_addWall b s9 u kk a1 a2 a3)) (yX (dC, dI) (fun z9 : BS × SS × US × Int32 => bw qb cI z9.1 ++ sw qs cI z9.2.1 ++ uw qu cI cB z9.2.2.1 ++ kw qk qb qr qe qs qu qx qd cI z9.2.2.2) (va_A (bw qb cI b ++ sw qs cI s9 ++ uw qu cI cB u ++ kw qk qb qr qe qs qu qx qd cI kk) sz) (pX11_addWall b s9 u kk a1 a2 a3)) 4 24 (va_A (bw qb cI b ++ sw qs cI s9 ++ uw qu cI cB u ++ kw qk qb qr qe qs qu qx qd cI kk) sz) := by
  refine zMet (cc := cX11_addWall) (maxL := 4) (ret := some .int) [(0, .ref (qk 0)), (1, .int a1), (2, .int a2), (3, .int a3)] (by decide) rfl rfl rfl ?_
  intro p e s mi below meth c C0 htab hz hK hF hP ls hl
  obtain ⟨hx, hb, hr, hml, hown, hts, hlocks⟩ := id C0
  have hown : s.vm.findClass RX11 = some mi.cls := hown
  have hE := hF.1
  subst hz
  have hA0 : ∀ q : Nat, s.heap.size ≤ q → (va_A (bw qb cI b ++ sw qs cI s9 ++ uw qu cI cB u ++ kw qk qb qr qe qs qu qx qd cI kk) s.heap.size) q := fun q h => Or.inr h
  have hN : ∀ q : Nat, (va_A (bw qb cI b ++ sw qs cI s9 ++ uw qu cI cB u ++ kw qk qb qr qe qs qu qx qd cI kk) s.heap.size) q → N0 ≤ q := vA_N (ws := bw qb cI b ++ sw qs cI s9 ++ uw qu cI cB u ++ kw qk qb qr qe qs qu qx qd cI kk) hN9 hsz
  have hH := hF.2.2.narrow hN
  have hS : va_S (va_A (bw qb cI b ++ sw qs cI s9 ++ uw qu cI cB u ++ kw qk qb qr qe qs qu qx qd cI kk) s.heap.size) s.heap s.heap [] := va_S.rf
  have hD : gD (va_A (bw qb cI b ++ sw qs cI s9 ++ uw qu cI cB u ++ kw qk qb qr qe qs qu qx qd cI kk) s.heap.size) (bAd qb ++ sAd qs ++ uAd qu ++ kAd qk) := gD_vA (ws := bw qb cI b ++ sw qs cI s9 ++ uw qu cI cB u ++ kw qk qb qr qe qs qu qx qd cI kk) hI
  have hP : va_P (dC, dI) vwCl (bw qb cI b ++ sw qs cI s9 ++ uw qu cI cB u ++ kw qk qb qr qe qs qu qx qd cI kk) s.heap := hP
  obtain ⟨F, hFe⟩ : ∃ F, F = pX11_addWall b s9 u kk a1 a2 a3 := ⟨_, rfl⟩
  have hf := hFe
  have hin11 : ∀ w ∈ u_ws RX11 TX11 8, w ∈ wsX11_addWall := by decide +kernel
  have fl10 := hts (.fieldLink RX11 10 "ClickBench" "bench" "LClickBench$Bench;") (by decide +kernel)
  refine lv_aload_n hx hb dX11_addWall_0 rfl (lv_at hl 0 rfl) ?_
  refine va_get (D := (dC, dI)) (ci := 8) (v := .ref (qb 0)) (C := RX11) (T := TX11) (N := 8) hx hb hts hin11 hown hK hP 52 rfl rfl 0 (by decide) fl10 (fun _ h9 => h9) rfl dX11_addWall_1 ?_
  refine lv_iload_n hx hb dX11_addWall_4 rfl (lv_at hl 1 rfl) ?_
  refine lv_iload_n hx hb dX11_addWall_5 rfl (lv_at hl 2 rfl) ?_
  refine lv_iload_n hx hb dX11_addWall_6 rfl (lv_at hl 3 rfl) ?_
  have hPc := hP.sub (ws' := bw qb cI b) [0, 1, 2, 3, 4, 5, 6, 7, 8] rfl
  refine gro_i (va_runV (As := [.int a1, .int a2, .int a3]) (rest := []) ⟨hx, hb, hml, hown, hts⟩ (mX2_refusalOfWall l dC dI cI cB cO cL qb b a1 a2 a3  ) (cwV 3 hts gX11_addWall_X2_refusalOfWall rfl rfl rfl (by decide +kernel) ⟨Nat.le_of_ble_eq_true rfl, Nat.le_of_ble_eq_true rfl⟩) ⟨cP_blind, va_recv hK hPc (ci := 1) (q0 := 0) rfl rfl, cP_ok hPc hK hE⟩ rfl rfl hl.1 rfl (lv_room (Nat.le_of_ble_eq_true rfl)) dX11_addWall_7 ⟨Nat.le_of_ble_eq_true rfl, Nat.le_of_ble_eq_true rfl⟩) ?_
  refine x_callS (vx_runS (As := [.int (pX2_refusalOfWall b a1 a2 a3)]) (rest := []) ⟨hx, hb, hml, hown, hts⟩ (mX11_refuse l hfl dC dI cI cB cO cL N0 sT eA s.heap.size (Nat.le_trans hsz hS.1) (pX2_refusalOfWall b a1 a2 a3)) (va_cwS 1 hts gX11_addWall_X11_refuse rfl rfl rfl (by decide +kernel) ⟨Nat.le_of_ble_eq_true rfl, Nat.le_of_ble_eq_true rfl⟩) ⟨zP_blind, zP_ok va_P_nil hK hF hS hN⟩ rfl rfl hl.1 rfl (lv_room (Nat.le_of_ble_eq_true rfl)) dX11_addWall_10 ⟨Nat.le_of_ble_eq_true rfl, Nat.le_of_ble_eq_true rfl⟩) hP hS hA0 (fun hne q9 ce H locs hP hS hce hcv hcl => ?_) (fun h0 H locs hP hS => ?_)
  · exact x_out htab hlocks hne ((xb_1 hne hf).symm.trans hFe) hP hS hce hcv hcl rfl rfl
  · have hf := xb_0 h0 hf
    have hok := xk_0 h0 hok
    refine lv_aload_n hx hb dX11_addWall_13 rfl (lv_at hl 0 rfl) ?_
    obtain ⟨h1, hok⟩ := hok
    refine gms_v (va_runV (As := []) (rest := []) ⟨hx, hb, hml, hown, hts⟩ (mX11_saveState l dC dI cI cB cO cL qb qs qu qk qr qe qx qd b s9 u kk (gD_any hD) h1) (cwV 0 hts gX11_addWall_X11_saveState rfl rfl rfl (by decide +kernel) ⟨Nat.le_of_ble_eq_true rfl, Nat.le_of_ble_eq_true rfl⟩) ⟨cP_blind, va_recv hK hP (ci := 8) (q0 := 52) rfl rfl, cP_ok hP hK hE⟩ rfl rfl hl.1 rfl (lv_room (Nat.le_of_ble_eq_true rfl)) dX11_addWall_14 ⟨Nat.le_of_ble_eq_true rfl, Nat.le_of_ble_eq_true rfl⟩) hP (gD_va hD rfl) hS (fun u3 H locs hw hP hS => ?_)
    have hP : va_P (dC, dI) vwCl (bw qb cI u3.1 ++ sw qs cI u3.2.1 ++ uw qu cI cB u3.2.2.1 ++ kw qk qb qr qe qs qu qx qd cI u3.2.2.2) H := hP
    have hf := lt_eq hw hf
    have hok := lt_ok hw hok
    refine lv_aload_n hx hb dX11_addWall_17 rfl (lv_at hl 0 rfl) ?_
    refine va_get (D := (dC, dI)) (ci := 8) (v := .ref (qb 0)) (C := RX11) (T := TX11) (N := 8) hx hb hts hin11 hown hK hP 52 rfl rfl 0 (by decide) fl10 (fun _ h9 => h9) rfl dX11_addWall_18 ?_
    refine lv_iload_n hx hb dX11_addWall_21 rfl (lv_at hl 1 rfl) ?_
    refine lv_iload_n hx hb dX11_addWall_22 rfl (lv_at hl 2 rfl) ?_
    refine lv_iload_n hx hb dX11_addWall_23 rfl (lv_at hl 3 rfl) ?_
    have h4 : kX2_placeWall u3.1 a1 a2 a3 := hok
    have hPc := hP.sub (ws' := bw qb cI u3.1) [0, 1, 2, 3, 4, 5, 6, 7, 8] rfl
    refine gmu_i (va_runV (As := [.int a1, .int a2, .int a3]) (rest := []) ⟨hx, hb, hml, hown, hts⟩ (mX2_placeWall l dC dI cI cB cO cL qb u3.1 a1 a2 a3 (gD_subT hD [0, 1, 2, 3, 4, 5, 6, 7, 8] rfl rfl) h4) (cwV 3 hts gX11_addWall_X2_placeWall rfl rfl rfl (by decide +kernel) ⟨Nat.le_of_ble_eq_true rfl, Nat.le_of_ble_eq_true rfl⟩) ⟨cP_blind, va_recv hK hPc (ci := 1) (q0 := 0) rfl rfl, cP_ok hPc hK hE⟩ rfl rfl hl.1 rfl (lv_room (Nat.le_of_ble_eq_true rfl)) dX11_addWall_24 ⟨Nat.le_of_ble_eq_true rfl, Nat.le_of_ble_eq_true rfl⟩) hP (gD_va hD rfl) hS [0, 1, 2, 3, 4, 5, 6, 7, 8] rfl (fun _ => rfl) (fun r5 u6 H locs hw hP hS => ?_)
    have hP : va_P (dC, dI) vwCl (bw qb cI u6 ++ sw qs cI u3.2.1 ++ uw qu cI cB u3.2.2.1 ++ kw qk qb qr qe qs qu qx qd cI u3.2.2.2) H := by
      have e09 : gpatch (bw qb cI u3.1 ++ sw qs cI u3.2.1 ++ uw qu cI cB u3.2.2.1 ++ kw qk qb qr qe qs qu qx qd cI u3.2.2.2) [0, 1, 2, 3, 4, 5, 6, 7, 8] (bw qb cI u6) = bw qb cI u6 ++ sw qs cI u3.2.1 ++ uw qu cI cB u3.2.2.1 ++ kw qk qb qr qe qs qu qx qd cI u3.2.2.2 := gpw_0_3 (bw qb cI u3.1) (bw qb cI u6) (sw qs cI u3.2.1) (uw qu cI cB u3.2.2.1) (kw qk qb qr qe qs qu qx qd cI u3.2.2.2) [0, 1, 2, 3, 4, 5, 6, 7, 8] rfl rfl
      exact (congrArg (fun z9 => va_P (dC, dI) vwCl z9 H) e09).mp hP
    have hf := bd_eq hw hf
    exact e_yi C0 (hf.symm.trans hFe) hP hS rfl rfl dX11_addWall_27
abbrev rX11_addScreen : Room := { frames := 7, cells := 4, slots := 24, locals := 124 }
set_option maxHeartbeats 4000000 in
set_option maxRecDepth 100000 in
theorem mX11_addScreen (l : Launch) (hfl : l.stackTraces = false) (dC : Nat → ClassId) (dI : Nat → Nat → Nat) (cI cB cO cL : ClassId) (N0 : Nat) (sT eA : Nat → Nat) (qb : Nat → Nat) (qs : Nat → Nat) (qu : Nat → Nat) (qk : Nat → Nat) (qr : Nat → Nat) (qe : Nat → Nat) (qx : Nat → Nat) (qd : Nat → Nat) (b : BS) (s9 : SS) (u : US) (kk : Int32) (a1 : Int32) (a2 : Int32) (a3 : Int32) (a4 : Int32) (sz : Nat) (hsz : N0 ≤ sz) (hI : gD (fun _ => True) (bAd qb ++ sAd qs ++ uAd qu ++ kAd qk)) (hN9 : ∀ a ∈ (bAd qb ++ sAd qs ++ uAd qu ++ kAd qk : List Nat), N0 ≤ a) (hok : kX11_addScreen b s9 u kk a1 a2 a3 a4) : vx_Met l yX11_addScreen wsX11_addScreen rX11_addScreen (zP N0 sz sT eA (dC, dI) (tYS cI cB cO cL) (bw qb cI b ++ sw qs cI s9 ++ uw qu cI cB u ++ kw qk qb qr qe qs qu qx qd cI kk) [.ref (qk 0), .int a1, .int a2, .int a3, .int a4]) (yQi (dC, dI) (fun z9 : BS × SS × US × Int32 => bw qb cI z9.1 ++ sw qs cI z9.2.1 ++ uw qu cI cB z9.2.2.1 ++ kw qk qb qr qe qs qu qx qd cI z9.2.2.2) (va_A (bw qb cI b ++ sw qs cI s9 ++ uw qu cI cB u ++ kw qk qb qr qe qs qu qx qd cI kk) sz) (pX11_addScreen b s9 u kk a1 a2 a3 a4)) (yX (dC, dI) (fun z9 : BS × SS × US × Int32 => bw qb cI z9.1 ++ sw qs cI z9.2.1 ++ uw qu cI cB z9.2.2.1 ++ kw qk qb qr qe qs qu qx qd cI z9.2.2.2) (va_A (bw qb cI b ++ sw qs cI s9 ++ uw qu cI cB u ++ kw qk qb qr qe qs qu qx qd cI kk) sz) (pX11_addScreen b s9 u kk a1 a2 a3 a4)) 4 24 (va_A (bw qb cI b ++ sw qs cI s9 ++ uw qu cI cB u ++ kw qk qb qr qe qs qu qx qd cI kk) sz) := by
  refine zMet (cc := cX11_addScreen) (maxL := 5) (ret := some .int) [(0, .ref (qk 0)), (1, .int a1), (2, .int a2), (3, .int a3), (4, .int a4)] (by decide) rfl rfl rfl ?_
  intro p e s mi below meth c C0 htab hz hK hF hP ls hl
  obtain ⟨hx, hb, hr, hml, hown, hts, hlocks⟩ := id C0
  have hown : s.vm.findClass RX11 = some mi.cls := hown
  have hE := hF.1
  subst hz
  have hA0 : ∀ q : Nat, s.heap.size ≤ q → (va_A (bw qb cI b ++ sw qs cI s9 ++ uw qu cI cB u ++ kw qk qb qr qe qs qu qx qd cI kk) s.heap.size) q := fun q h => Or.inr h
  have hN : ∀ q : Nat, (va_A (bw qb cI b ++ sw qs cI s9 ++ uw qu cI cB u ++ kw qk qb qr qe qs qu qx qd cI kk) s.heap.size) q → N0 ≤ q := vA_N (ws := bw qb cI b ++ sw qs cI s9 ++ uw qu cI cB u ++ kw qk qb qr qe qs qu qx qd cI kk) hN9 hsz
  have hH := hF.2.2.narrow hN
  have hS : va_S (va_A (bw qb cI b ++ sw qs cI s9 ++ uw qu cI cB u ++ kw qk qb qr qe qs qu qx qd cI kk) s.heap.size) s.heap s.heap [] := va_S.rf
  have hD : gD (va_A (bw qb cI b ++ sw qs cI s9 ++ uw qu cI cB u ++ kw qk qb qr qe qs qu qx qd cI kk) s.heap.size) (bAd qb ++ sAd qs ++ uAd qu ++ kAd qk) := gD_vA (ws := bw qb cI b ++ sw qs cI s9 ++ uw qu cI cB u ++ kw qk qb qr qe qs qu qx qd cI kk) hI
  have hP : va_P (dC, dI) vwCl (bw qb cI b ++ sw qs cI s9 ++ uw qu cI cB u ++ kw qk qb qr qe qs qu qx qd cI kk) s.heap := hP
  obtain ⟨F, hFe⟩ : ∃ F, F = pX11_addScreen b s9 u kk a1 a2 a3 a4 := ⟨_, rfl⟩
  have hf := hFe
  have hin11 : ∀ w ∈ u_ws RX11 TX11 8, w ∈ wsX11_addScreen := by decide +kernel
  have fl10 := hts (.fieldLink RX11 10 "ClickBench" "bench" "LClickBench$Bench;") (by decide +kernel)
  refine lv_aload_n hx hb dX11_addScreen_0 rfl (lv_at hl 0 rfl) ?_
  refine va_get (D := (dC, dI)) (ci := 8) (v := .ref (qb 0)) (C := RX11) (T := TX11) (N := 8) hx hb hts hin11 hown hK hP 52 rfl rfl 0 (by decide) fl10 (fun _ h9 => h9) rfl dX11_addScreen_1 ?_
  refine lv_iload_n hx hb dX11_addScreen_4 rfl (lv_at hl 1 rfl) ?_
  refine lv_iload_n hx hb dX11_addScreen_5 rfl (lv_at hl 2 rfl) ?_
  refine lv_iload_n hx hb dX11_addScreen_6 rfl (lv_at hl 3 rfl) ?_
  refine lv_iload hx hb dX11_addScreen_7 (lv_at hl 4 rfl) ?_
  have hPc := hP.sub (ws' := bw qb cI b) [0, 1, 2, 3, 4, 5, 6, 7, 8] rfl
  refine gro_i (va_runV (As := [.int a1, .int a2, .int a3, .int a4]) (rest := []) ⟨hx, hb, hml, hown, hts⟩ (mX2_refusalOfScreen l dC dI cI cB cO cL qb b a1 a2 a3 a4  ) (cwV 4 hts gX11_addScreen_X2_refusalOfScreen rfl rfl rfl (by decide +kernel) ⟨Nat.le_of_ble_eq_true rfl, Nat.le_of_ble_eq_true rfl⟩) ⟨cP_blind, va_recv hK hPc (ci := 1) (q0 := 0) rfl rfl, cP_ok hPc hK hE⟩ rfl rfl hl.1 rfl (lv_room (Nat.le_of_ble_eq_true rfl)) dX11_addScreen_9 ⟨Nat.le_of_ble_eq_true rfl, Nat.le_of_ble_eq_true rfl⟩) ?_
  refine x_callS (vx_runS (As := [.int (pX2_refusalOfScreen b a1 a2 a3 a4)]) (rest := []) ⟨hx, hb, hml, hown, hts⟩ (mX11_refuse l hfl dC dI cI cB cO cL N0 sT eA s.heap.size (Nat.le_trans hsz hS.1) (pX2_refusalOfScreen b a1 a2 a3 a4)) (va_cwS 1 hts gX11_addScreen_X11_refuse rfl rfl rfl (by decide +kernel) ⟨Nat.le_of_ble_eq_true rfl, Nat.le_of_ble_eq_true rfl⟩) ⟨zP_blind, zP_ok va_P_nil hK hF hS hN⟩ rfl rfl hl.1 rfl (lv_room (Nat.le_of_ble_eq_true rfl)) dX11_addScreen_12 ⟨Nat.le_of_ble_eq_true rfl, Nat.le_of_ble_eq_true rfl⟩) hP hS hA0 (fun hne q9 ce H locs hP hS hce hcv hcl => ?_) (fun h0 H locs hP hS => ?_)
  · exact x_out htab hlocks hne ((xb_1 hne hf).symm.trans hFe) hP hS hce hcv hcl rfl rfl
  · have hf := xb_0 h0 hf
    have hok := xk_0 h0 hok
    refine lv_aload_n hx hb dX11_addScreen_15 rfl (lv_at hl 0 rfl) ?_
    obtain ⟨h1, hok⟩ := hok
    refine gms_v (va_runV (As := []) (rest := []) ⟨hx, hb, hml, hown, hts⟩ (mX11_saveState l dC dI cI cB cO cL qb qs qu qk qr qe qx qd b s9 u kk (gD_any hD) h1) (cwV 0 hts gX11_addScreen_X11_saveState rfl rfl rfl (by decide +kernel) ⟨Nat.le_of_ble_eq_true rfl, Nat.le_of_ble_eq_true rfl⟩) ⟨cP_blind, va_recv hK hP (ci := 8) (q0 := 52) rfl rfl, cP_ok hP hK hE⟩ rfl rfl hl.1 rfl (lv_room (Nat.le_of_ble_eq_true rfl)) dX11_addScreen_16 ⟨Nat.le_of_ble_eq_true rfl, Nat.le_of_ble_eq_true rfl⟩) hP (gD_va hD rfl) hS (fun u3 H locs hw hP hS => ?_)
    have hP : va_P (dC, dI) vwCl (bw qb cI u3.1 ++ sw qs cI u3.2.1 ++ uw qu cI cB u3.2.2.1 ++ kw qk qb qr qe qs qu qx qd cI u3.2.2.2) H := hP
    have hf := lt_eq hw hf
    have hok := lt_ok hw hok
    refine lv_aload_n hx hb dX11_addScreen_19 rfl (lv_at hl 0 rfl) ?_
    refine va_get (D := (dC, dI)) (ci := 8) (v := .ref (qb 0)) (C := RX11) (T := TX11) (N := 8) hx hb hts hin11 hown hK hP 52 rfl rfl 0 (by decide) fl10 (fun _ h9 => h9) rfl dX11_addScreen_20 ?_
    refine lv_iload_n hx hb dX11_addScreen_23 rfl (lv_at hl 1 rfl) ?_
    refine lv_iload_n hx hb dX11_addScreen_24 rfl (lv_at hl 2 rfl) ?_
    refine lv_iload_n hx hb dX11_addScreen_25 rfl (lv_at hl 3 rfl) ?_
    refine lv_iload hx hb dX11_addScreen_26 (lv_at hl 4 rfl) ?_
    have h4 : kX2_placeScreen u3.1 a1 a2 a3 a4 := hok
    have hPc := hP.sub (ws' := bw qb cI u3.1) [0, 1, 2, 3, 4, 5, 6, 7, 8] rfl
    refine gmu_i (va_runV (As := [.int a1, .int a2, .int a3, .int a4]) (rest := []) ⟨hx, hb, hml, hown, hts⟩ (mX2_placeScreen l dC dI cI cB cO cL qb u3.1 a1 a2 a3 a4 (gD_subT hD [0, 1, 2, 3, 4, 5, 6, 7, 8] rfl rfl) h4) (cwV 4 hts gX11_addScreen_X2_placeScreen rfl rfl rfl (by decide +kernel) ⟨Nat.le_of_ble_eq_true rfl, Nat.le_of_ble_eq_true rfl⟩) ⟨cP_blind, va_recv hK hPc (ci := 1) (q0 := 0) rfl rfl, cP_ok hPc hK hE⟩ rfl rfl hl.1 rfl (lv_room (Nat.le_of_ble_eq_true rfl)) dX11_addScreen_28 ⟨Nat.le_of_ble_eq_true rfl, Nat.le_of_ble_eq_true rfl⟩) hP (gD_va hD rfl) hS [0, 1, 2, 3, 4, 5, 6, 7, 8] rfl (fun _ => rfl) (fun r5 u6 H locs hw hP hS => ?_)
    have hP : va_P (dC, dI) vwCl (bw qb cI u6 ++ sw qs cI u3.2.1 ++ uw qu cI cB u3.2.2.1 ++ kw qk qb qr qe qs qu qx qd cI u3.2.2.2) H := by
      have e09 : gpatch (bw qb cI u3.1 ++ sw qs cI u3.2.1 ++ uw qu cI cB u3.2.2.1 ++ kw qk qb qr qe qs qu qx qd cI u3.2.2.2) [0, 1, 2, 3, 4, 5, 6, 7, 8] (bw qb cI u6) = bw qb cI u6 ++ sw qs cI u3.2.1 ++ uw qu cI cB u3.2.2.1 ++ kw qk qb qr qe qs qu qx qd cI u3.2.2.2 := gpw_0_3 (bw qb cI u3.1) (bw qb cI u6) (sw qs cI u3.2.1) (uw qu cI cB u3.2.2.1) (kw qk qb qr qe qs qu qx qd cI u3.2.2.2) [0, 1, 2, 3, 4, 5, 6, 7, 8] rfl rfl
      exact (congrArg (fun z9 => va_P (dC, dI) vwCl z9 H) e09).mp hP
    have hf := bd_eq hw hf
    exact e_yi C0 (hf.symm.trans hFe) hP hS rfl rfl dX11_addScreen_31
abbrev rX11_setClock : Room := { frames := 8, cells := 4, slots := 24, locals := 132 }
set_option maxHeartbeats 4000000 in
set_option maxRecDepth 100000 in
theorem mX11_setClock (l : Launch) (hfl : l.stackTraces = false) (dC : Nat → ClassId) (dI : Nat → Nat → Nat) (cI cB cO cL : ClassId) (N0 : Nat) (sT eA : Nat → Nat) (qb : Nat → Nat) (qs : Nat → Nat) (qu : Nat → Nat) (qk : Nat → Nat) (qr : Nat → Nat) (qe : Nat → Nat) (qx : Nat → Nat) (qd : Nat → Nat) (b : BS) (s9 : SS) (u : US) (kk : Int32) (a1 : Int32) (a2 : Int32) (sz : Nat) (hsz : N0 ≤ sz) (hI : gD (fun _ => True) (bAd qb ++ sAd qs ++ uAd qu ++ kAd qk)) (hN9 : ∀ a ∈ (bAd qb ++ sAd qs ++ uAd qu ++ kAd qk : List Nat), N0 ≤ a) (hok : kX11_setClock b s9 u kk a1 a2) : vx_Met l yX11_setClock wsX11_setClock rX11_setClock (zP N0 sz sT eA (dC, dI) (tYS cI cB cO cL) (bw qb cI b ++ sw qs cI s9 ++ uw qu cI cB u ++ kw qk qb qr qe qs qu qx qd cI kk) [.ref (qk 0), .int a1, .int a2]) (yQi (dC, dI) (fun z9 : BS × SS × US × Int32 => bw qb cI z9.1 ++ sw qs cI z9.2.1 ++ uw qu cI cB z9.2.2.1 ++ kw qk qb qr qe qs qu qx qd cI z9.2.2.2) (va_A (bw qb cI b ++ sw qs cI s9 ++ uw qu cI cB u ++ kw qk qb qr qe qs qu qx qd cI kk) sz) (pX11_setClock b s9 u kk a1 a2)) (yX (dC, dI) (fun z9 : BS × SS × US × Int32 => bw qb cI z9.1 ++ sw qs cI z9.2.1 ++ uw qu cI cB z9.2.2.1 ++ kw qk qb qr qe qs qu qx qd cI z9.2.2.2) (va_A (bw qb cI b ++ sw qs cI s9 ++ uw qu cI cB u ++ kw qk qb qr qe qs qu qx qd cI kk) sz) (pX11_setClock b s9 u kk a1 a2)) 4 24 (va_A (bw qb cI b ++ sw qs cI s9 ++ uw qu cI cB u ++ kw qk qb qr qe qs qu qx qd cI kk) sz) := by
  refine zMet (cc := cX11_setClock) (maxL := 4) (ret := some .int) [(0, .ref (qk 0)), (1, .int a1), (2, .int a2)] (by decide) rfl rfl rfl ?_
  intro p e s mi below meth c C0 htab hz hK hF hP ls hl
  obtain ⟨hx, hb, hr, hml, hown, hts, hlocks⟩ := id C0
  have hown : s.vm.findClass RX11 = some mi.cls := hown
  have hE := hF.1
  subst hz
  have hA0 : ∀ q : Nat, s.heap.size ≤ q → (va_A (bw qb cI b ++ sw qs cI s9 ++ uw qu cI cB u ++ kw qk qb qr qe qs qu qx qd cI kk) s.heap.size) q := fun q h => Or.inr h
  have hN : ∀ q : Nat, (va_A (bw qb cI b ++ sw qs cI s9 ++ uw qu cI cB u ++ kw qk qb qr qe qs qu qx qd cI kk) s.heap.size) q → N0 ≤ q := vA_N (ws := bw qb cI b ++ sw qs cI s9 ++ uw qu cI cB u ++ kw qk qb qr qe qs qu qx qd cI kk) hN9 hsz
  have hH := hF.2.2.narrow hN
  have hS : va_S (va_A (bw qb cI b ++ sw qs cI s9 ++ uw qu cI cB u ++ kw qk qb qr qe qs qu qx qd cI kk) s.heap.size) s.heap s.heap [] := va_S.rf
  have hD : gD (va_A (bw qb cI b ++ sw qs cI s9 ++ uw qu cI cB u ++ kw qk qb qr qe qs qu qx qd cI kk) s.heap.size) (bAd qb ++ sAd qs ++ uAd qu ++ kAd qk) := gD_vA (ws := bw qb cI b ++ sw qs cI s9 ++ uw qu cI cB u ++ kw qk qb qr qe qs qu qx qd cI kk) hI
  have hP : va_P (dC, dI) vwCl (bw qb cI b ++ sw qs cI s9 ++ uw qu cI cB u ++ kw qk qb qr qe qs qu qx qd cI kk) s.heap := hP
  obtain ⟨F, hFe⟩ : ∃ F, F = pX11_setClock b s9 u kk a1 a2 := ⟨_, rfl⟩
  have hf := hFe
  have hin11 : ∀ w ∈ u_ws RX11 TX11 8, w ∈ wsX11_setClock := by decide +kernel
  have hin2 : ∀ w ∈ u_ws RX2 TX2 8, w ∈ wsX11_setClock := by decide +kernel
  have fl10 := hts (.fieldLink RX11 10 "ClickBench" "bench" "LClickBench$Bench;") (by decide +kernel)
  have fl82 := hts (.fieldLink RX11 82 "ClickBench$Bench" "microphones" "LClickBench$Table;") (by decide +kernel)
  refine lv_aload_n hx hb dX11_setClock_0 rfl (lv_at hl 0 rfl) ?_
  refine va_get (D := (dC, dI)) (ci := 8) (v := .ref (qb 0)) (C := RX11) (T := TX11) (N := 8) hx hb hts hin11 hown hK hP 52 rfl rfl 0 (by decide) fl10 (fun _ h9 => h9) rfl dX11_setClock_1 ?_
  refine va_get (D := (dC, dI)) (ci := 1) (v := .ref (qb 1)) (C := RX2) (T := TX2) (N := 8) hx hb hts hin2 hown hK hP 0 rfl rfl 4 (by decide) fl82 (fun _ h9 => h9) rfl dX11_setClock_4 ?_
  refine lv_iload_n hx hb dX11_setClock_7 rfl (lv_at hl 1 rfl) ?_
  have hPc := hP.sub (ws' := tw (tad (qb 1) (qb 2)) cI 8 9 72 (b.1 4, b.2 0)) [1, 2] rfl
  refine gro_i (va_runV (As := [.int a1]) (rest := []) ⟨hx, hb, hml, hown, hts⟩ (mX9_has l dC dI cI cB cO cL (tad (qb 1) (qb 2)) 8 9 72 (b.1 4, b.2 0) a1  ) (cwV 1 hts gX11_setClock_X9_has rfl rfl rfl (by decide +kernel) ⟨Nat.le_of_ble_eq_true rfl, Nat.le_of_ble_eq_true rfl⟩) ⟨cP_blind, va_recv hK hPc (ci := 6) (q0 := 0) rfl rfl, cP_ok hPc hK hE⟩ rfl rfl hl.1 rfl (lv_room (Nat.le_of_ble_eq_true rfl)) dX11_setClock_8 ⟨Nat.le_of_ble_eq_true rfl, Nat.le_of_ble_eq_true rfl⟩) ?_
  refine x_callS (vx_runS (As := [.int (bz (pX9_has 8 9 72 (b.1 4, b.2 0) a1))]) (rest := []) ⟨hx, hb, hml, hown, hts⟩ (mX11_requireThere l hfl dC dI cI cB cO cL N0 sT eA s.heap.size (Nat.le_trans hsz hS.1) (pX9_has 8 9 72 (b.1 4, b.2 0) a1)) (va_cwS 1 hts gX11_setClock_X11_requireThere rfl rfl rfl (by decide +kernel) ⟨Nat.le_of_ble_eq_true rfl, Nat.le_of_ble_eq_true rfl⟩) ⟨zP_blind, zP_ok va_P_nil hK hF hS hN⟩ rfl rfl hl.1 rfl (lv_room (Nat.le_of_ble_eq_true rfl)) dX11_setClock_11 ⟨Nat.le_of_ble_eq_true rfl, Nat.le_of_ble_eq_true rfl⟩) hP hS hA0 (fun hne q9 ce H locs hP hS hce hcv hcl => ?_) (fun h0 H locs hP hS => ?_)
  · exact x_out htab hlocks hne ((xb_1 hne hf).symm.trans hFe) hP hS hce hcv hcl rfl rfl
  · have hf := xb_0 h0 hf
    have hok := xk_0 h0 hok
    refine lv_iload_n hx hb dX11_setClock_14 rfl (lv_at hl 2 rfl) ?_
    refine lv_sipush (v := (-500)) hx hb dX11_setClock_15 (by decide) ?_
    refine lv_sipush (v := 500) hx hb dX11_setClock_18 (by decide) ?_
    refine gro_i (va_runS (As := [.int a2, .int (-500), .int 500]) (rest := []) ⟨hx, hb, hml, hown, hts⟩ (mX11_isBetween l dC dI cI cB cO cL  a2 (-500) 500  ) (va_cwS 3 hts gX11_setClock_X11_isBetween rfl rfl rfl (by decide +kernel) ⟨Nat.le_of_ble_eq_true rfl, Nat.le_of_ble_eq_true rfl⟩) ⟨cP_blind, cP_ok va_P_nil hK hE⟩ rfl rfl hl.1 rfl (lv_room (Nat.le_of_ble_eq_true rfl)) dX11_setClock_21 ⟨Nat.le_of_ble_eq_true rfl, Nat.le_of_ble_eq_true rfl⟩) ?_
    refine x_callS (vx_runS (As := [.int (bz (pX11_isBetween a2 (-500) 500))]) (rest := []) ⟨hx, hb, hml, hown, hts⟩ (mX11_requireRange l hfl dC dI cI cB cO cL N0 sT eA H.size (Nat.le_trans hsz hS.1) (pX11_isBetween a2 (-500) 500)) (va_cwS 1 hts gX11_setClock_X11_requireRange rfl rfl rfl (by decide +kernel) ⟨Nat.le_of_ble_eq_true rfl, Nat.le_of_ble_eq_true rfl⟩) ⟨zP_blind, zP_ok va_P_nil hK hF hS hN⟩ rfl rfl hl.1 rfl (lv_room (Nat.le_of_ble_eq_true rfl)) dX11_setClock_24 ⟨Nat.le_of_ble_eq_true rfl, Nat.le_of_ble_eq_true rfl⟩) hP hS hA0 (fun hne q9 ce H locs hP hS hce hcv hcl => ?_) (fun h0 H locs hP hS => ?_)
    · exact x_out htab hlocks hne ((xb_1 hne hf).symm.trans hFe) hP hS hce hcv hcl rfl rfl
    · have hf := xb_0 h0 hf
      have hok := xk_0 h0 hok
      refine lv_aload_n hx hb dX11_setClock_27 rfl (lv_at hl 0 rfl) ?_
      obtain ⟨h1, hok⟩ := hok
      refine gms_v (va_runV (As := []) (rest := []) ⟨hx, hb, hml, hown, hts⟩ (mX11_saveState l dC dI cI cB cO cL qb qs qu qk qr qe qx qd b s9 u kk (gD_any hD) h1) (cwV 0 hts gX11_setClock_X11_saveState rfl rfl rfl (by decide +kernel) ⟨Nat.le_of_ble_eq_true rfl, Nat.le_of_ble_eq_true rfl⟩) ⟨cP_blind, va_recv hK hP (ci := 8) (q0 := 52) rfl rfl, cP_ok hP hK hE⟩ rfl rfl hl.1 rfl (lv_room (Nat.le_of_ble_eq_true rfl)) dX11_setClock_28 ⟨Nat.le_of_ble_eq_true rfl, Nat.le_of_ble_eq_true rfl⟩) hP (gD_va hD rfl) hS (fun u3 H locs hw hP hS => ?_)
      have hP : va_P (dC, dI) vwCl (bw qb cI u3.1 ++ sw qs cI u3.2.1 ++ uw qu cI cB u3.2.2.1 ++ kw qk qb qr qe qs qu qx qd cI u3.2.2.2) H := hP
      have hf := lt_eq hw hf
      have hok := lt_ok hw hok
      refine lv_aload_n hx hb dX11_setClock_31 rfl (lv_at hl 0 rfl) ?_
      refine va_get (D := (dC, dI)) (ci := 8) (v := .ref (qb 0)) (C := RX11) (T := TX11) (N := 8) hx hb hts hin11 hown hK hP 52 rfl rfl 0 (by decide) fl10 (fun _ h9 => h9) rfl dX11_setClock_32 ?_
      refine va_get (D := (dC, dI)) (ci := 1) (v := .ref (qb 1)) (C := RX2) (T := TX2) (N := 8) hx hb hts hin2 hown hK hP 0 rfl rfl 4 (by decide) fl82 (fun _ h9 => h9) rfl dX11_setClock_35 ?_
      refine lv_iload_n hx hb dX11_setClock_38 rfl (lv_at hl 1 rfl) ?_
      refine lv_iconst (v := 2) hx hb dX11_setClock_39 (by decide) ?_
      obtain ⟨h4, hok⟩ := hok
      have hPc := hP.sub (ws' := tw (tad (qb 1) (qb 2)) cI 8 9 72 (u3.1.1 4, u3.1.2 0)) [1, 2] rfl
      refine gro_i (va_runV (As := [.int a1, .int 2]) (rest := []) ⟨hx, hb, hml, hown, hts⟩ (mX9_at l dC dI cI cB cO cL (tad (qb 1) (qb 2)) 8 9 72 (u3.1.1 4, u3.1.2 0) a1 2  h4) (cwV 2 hts gX11_setClock_X9_at rfl rfl rfl (by decide +kernel) ⟨Nat.le_of_ble_eq_true rfl, Nat.le_of_ble_eq_true rfl⟩) ⟨cP_blind, va_recv hK hPc (ci := 6) (q0 := 0) rfl rfl, cP_ok hPc hK hE⟩ rfl rfl hl.1 rfl (lv_room (Nat.le_of_ble_eq_true rfl)) dX11_setClock_40 ⟨Nat.le_of_ble_eq_true rfl, Nat.le_of_ble_eq_true rfl⟩) ?_
      refine lv_topi (fun x5 ex5 => ?_)
      have hf := lt_eq ex5 hf
      have hok := lt_ok ex5 hok
      refine lv_istore_n (lv' := [(3, .int x5), (0, .ref (qk 0)), (1, .int a1), (2, .int a2)]) hx hb dX11_setClock_43 rfl hl (by decide) rfl (fun ls hl => ?_)
      refine lv_aload_n hx hb dX11_setClock_44 rfl (lv_at hl 1 rfl) ?_
      refine va_get (D := (dC, dI)) (ci := 8) (v := .ref (qb 0)) (C := RX11) (T := TX11) (N := 8) hx hb hts hin11 hown hK hP 52 rfl rfl 0 (by decide) fl10 (fun _ h9 => h9) rfl dX11_setClock_45 ?_
      refine va_get (D := (dC, dI)) (ci := 1) (v := .ref (qb 1)) (C := RX2) (T := TX2) (N := 8) hx hb hts hin2 hown hK hP 0 rfl rfl 4 (by decide) fl82 (fun _ h9 => h9) rfl dX11_setClock_48 ?_
      refine lv_iload_n hx hb dX11_setClock_51 rfl (lv_at hl 2 rfl) ?_
      refine lv_iconst (v := 2) hx hb dX11_setClock_52 (by decide) ?_
      refine lv_iload_n hx hb dX11_setClock_53 rfl (lv_at hl 3 rfl) ?_
      have h6 : kX9_put 8 9 72 (u3.1.1 4, u3.1.2 0) a1 2 a2 := hok
      have hPc := hP.sub (ws' := tw (tad (qb 1) (qb 2)) cI 8 9 72 (u3.1.1 4, u3.1.2 0)) [1, 2] rfl
      refine gmu_v (va_runV (As := [.int a1, .int 2, .int a2]) (rest := []) ⟨hx, hb, hml, hown, hts⟩ (mX9_put l dC dI cI cB cO cL (tad (qb 1) (qb 2)) 8 9 72 (u3.1.1 4, u3.1.2 0) a1 2 a2 (gD_subT hD [1, 2] rfl rfl) h6) (cwV 3 hts gX11_setClock_X9_put rfl rfl rfl (by decide +kernel) ⟨Nat.le_of_ble_eq_true rfl, Nat.le_of_ble_eq_true rfl⟩) ⟨cP_blind, va_recv hK hPc (ci := 6) (q0 := 0) rfl rfl, cP_ok hPc hK hE⟩ rfl rfl hl.1 rfl (lv_room (Nat.le_of_ble_eq_true rfl)) dX11_setClock_54 ⟨Nat.le_of_ble_eq_true rfl, Nat.le_of_ble_eq_true rfl⟩) hP (gD_va hD rfl) hS [1, 2] rfl (fun _ => rfl) (fun u8 H locs hw hP hS => ?_)
      have hP : va_P (dC, dI) vwCl (bw qb cI (bst u3.1 0 u8) ++ sw qs cI u3.2.1 ++ uw qu cI cB u3.2.2.1 ++ kw qk qb qr qe qs qu qx qd cI u3.2.2.2) H := hP
      have hf := lt_eq hw hf
      refine lv_iload_n hx hb dX11_setClock_57 rfl (lv_at hl 0 rfl) ?_
      exact e_yi C0 (hf.symm.trans hFe) hP hS rfl rfl dX11_setClock_58
abbrev rX11_remove : Room := { frames := 8, cells := 4, slots := 24, locals := 132 }
set_option maxHeartbeats 4000000 in
set_option maxRecDepth 100000 in
theorem mX11_remove (l : Launch) (hfl : l.stackTraces = false) (dC : Nat → ClassId) (dI : Nat → Nat → Nat) (cI cB cO cL : ClassId) (N0 : Nat) (sT eA : Nat → Nat) (qb : Nat → Nat) (qs : Nat → Nat) (qu : Nat → Nat) (qk : Nat → Nat) (qr : Nat → Nat) (qe : Nat → Nat) (qx : Nat → Nat) (qd : Nat → Nat) (b : BS) (s9 : SS) (u : US) (kk : Int32) (a1 : Int32) (a2 : Int32) (sz : Nat) (hsz : N0 ≤ sz) (hI : gD (fun _ => True) (bAd qb ++ sAd qs ++ uAd qu ++ kAd qk)) (hN9 : ∀ a ∈ (bAd qb ++ sAd qs ++ uAd qu ++ kAd qk : List Nat), N0 ≤ a) (hok : kX11_remove b s9 u kk a1 a2) : vx_Met l yX11_remove wsX11_remove rX11_remove (zP N0 sz sT eA (dC, dI) (tYS cI cB cO cL) (bw qb cI b ++ sw qs cI s9 ++ uw qu cI cB u ++ kw qk qb qr qe qs qu qx qd cI kk) [.ref (qk 0), .int a1, .int a2]) (yQi (dC, dI) (fun z9 : BS × SS × US × Int32 => bw qb cI z9.1 ++ sw qs cI z9.2.1 ++ uw qu cI cB z9.2.2.1 ++ kw qk qb qr qe qs qu qx qd cI z9.2.2.2) (va_A (bw qb cI b ++ sw qs cI s9 ++ uw qu cI cB u ++ kw qk qb qr qe qs qu qx qd cI kk) sz) (pX11_remove b s9 u kk a1 a2)) (yX (dC, dI) (fun z9 : BS × SS × US × Int32 => bw qb cI z9.1 ++ sw qs cI z9.2.1 ++ uw qu cI cB z9.2.2.1 ++ kw qk qb qr qe qs qu qx qd cI z9.2.2.2) (va_A (bw qb cI b ++ sw qs cI s9 ++ uw qu cI cB u ++ kw qk qb qr qe qs qu qx qd cI kk) sz) (pX11_remove b s9 u kk a1 a2)) 4 24 (va_A (bw qb cI b ++ sw qs cI s9 ++ uw qu cI cB u ++ kw qk qb qr qe qs qu qx qd cI kk) sz) := by
  refine zMet (cc := cX11_remove) (maxL := 4) (ret := some .int) [(0, .ref (qk 0)), (1, .int a1), (2, .int a2)] (by decide) rfl rfl rfl ?_
  intro p e s mi below meth c C0 htab hz hK hF hP ls hl
  obtain ⟨hx, hb, hr, hml, hown, hts, hlocks⟩ := id C0
  have hown : s.vm.findClass RX11 = some mi.cls := hown
  have hE := hF.1
  subst hz
  have hA0 : ∀ q : Nat, s.heap.size ≤ q → (va_A (bw qb cI b ++ sw qs cI s9 ++ uw qu cI cB u ++ kw qk qb qr qe qs qu qx qd cI kk) s.heap.size) q := fun q h => Or.inr h
  have hN : ∀ q : Nat, (va_A (bw qb cI b ++ sw qs cI s9 ++ uw qu cI cB u ++ kw qk qb qr qe qs qu qx qd cI kk) s.heap.size) q → N0 ≤ q := vA_N (ws := bw qb cI b ++ sw qs cI s9 ++ uw qu cI cB u ++ kw qk qb qr qe qs qu qx qd cI kk) hN9 hsz
  have hH := hF.2.2.narrow hN
  have hS : va_S (va_A (bw qb cI b ++ sw qs cI s9 ++ uw qu cI cB u ++ kw qk qb qr qe qs qu qx qd cI kk) s.heap.size) s.heap s.heap [] := va_S.rf
  have hD : gD (va_A (bw qb cI b ++ sw qs cI s9 ++ uw qu cI cB u ++ kw qk qb qr qe qs qu qx qd cI kk) s.heap.size) (bAd qb ++ sAd qs ++ uAd qu ++ kAd qk) := gD_vA (ws := bw qb cI b ++ sw qs cI s9 ++ uw qu cI cB u ++ kw qk qb qr qe qs qu qx qd cI kk) hI
  have hP : va_P (dC, dI) vwCl (bw qb cI b ++ sw qs cI s9 ++ uw qu cI cB u ++ kw qk qb qr qe qs qu qx qd cI kk) s.heap := hP
  obtain ⟨F, hFe⟩ : ∃ F, F = pX11_remove b s9 u kk a1 a2 := ⟨_, rfl⟩
  have hf := hFe
  have hin11 : ∀ w ∈ u_ws RX11 TX11 8, w ∈ wsX11_remove := by decide +kernel
  have hin9 : ∀ w ∈ u_ws RX9 TX9 4, w ∈ wsX11_remove := by decide +kernel
  have fl10 := hts (.fieldLink RX11 10 "ClickBench" "bench" "LClickBench$Bench;") (by decide +kernel)
  have fl131 := hts (.fieldLink RX11 131 "ClickBench$Table" "count" "I") (by decide +kernel)
  refine lv_iload_n hx hb dX11_remove_0 rfl (lv_at hl 1 rfl) ?_
  refine lv_iconst (v := 0) hx hb dX11_remove_1 (by decide) ?_
  refine lv_iconst (v := 2) hx hb dX11_remove_2 (by decide) ?_
  refine gro_i (va_runS (As := [.int a1, .int 0, .int 2]) (rest := []) ⟨hx, hb, hml, hown, hts⟩ (mX11_isBetween l dC dI cI cB cO cL  a1 0 2  ) (va_cwS 3 hts gX11_remove_X11_isBetween rfl rfl rfl (by decide +kernel) ⟨Nat.le_of_ble_eq_true rfl, Nat.le_of_ble_eq_true rfl⟩) ⟨cP_blind, cP_ok va_P_nil hK hE⟩ rfl rfl hl.1 rfl (lv_room (Nat.le_of_ble_eq_true rfl)) dX11_remove_3 ⟨Nat.le_of_ble_eq_true rfl, Nat.le_of_ble_eq_true rfl⟩) ?_
  refine x_callS (vx_runS (As := [.int (bz (pX11_isBetween a1 0 2))]) (rest := []) ⟨hx, hb, hml, hown, hts⟩ (mX11_requireRange l hfl dC dI cI cB cO cL N0 sT eA s.heap.size (Nat.le_trans hsz hS.1) (pX11_isBetween a1 0 2)) (va_cwS 1 hts gX11_remove_X11_requireRange rfl rfl rfl (by decide +kernel) ⟨Nat.le_of_ble_eq_true rfl, Nat.le_of_ble_eq_true rfl⟩) ⟨zP_blind, zP_ok va_P_nil hK hF hS hN⟩ rfl rfl hl.1 rfl (lv_room (Nat.le_of_ble_eq_true rfl)) dX11_remove_6 ⟨Nat.le_of_ble_eq_true rfl, Nat.le_of_ble_eq_true rfl⟩) hP hS hA0 (fun hne q9 ce H locs hP hS hce hcv hcl => ?_) (fun h0 H locs hP hS => ?_)
  · exact x_out htab hlocks hne ((xb_1 hne hf).symm.trans hFe) hP hS hce hcv hcl rfl rfl
  · have hf := xb_0 h0 hf
    have hok := xk_0 h0 hok
    refine lv_aload_n hx hb dX11_remove_9 rfl (lv_at hl 0 rfl) ?_
    refine va_get (D := (dC, dI)) (ci := 8) (v := .ref (qb 0)) (C := RX11) (T := TX11) (N := 8) hx hb hts hin11 hown hK hP 52 rfl rfl 0 (by decide) fl10 (fun _ h9 => h9) rfl dX11_remove_10 ?_
    refine lv_iload_n hx hb dX11_remove_13 rfl (lv_at hl 1 rfl) ?_
    have hPc := hP.sub (ws' := bw qb cI b) [0, 1, 2, 3, 4, 5, 6, 7, 8] rfl
    refine va_csr (va_Run.run (va_runV (As := [.int a1]) (rest := []) ⟨hx, hb, hml, hown, hts⟩ (mX2_tableOf l dC dI cI cB cO cL qb b a1  ) (cwV 1 hts gX11_remove_X2_tableOf rfl rfl rfl (by decide +kernel) ⟨Nat.le_of_ble_eq_true rfl, Nat.le_of_ble_eq_true rfl⟩) ⟨cP_blind, va_recv hK hPc (ci := 1) (q0 := 0) rfl rfl, cP_ok hPc hK hE⟩ rfl rfl hl.1 rfl (lv_room (Nat.le_of_ble_eq_true rfl)) dX11_remove_14 ⟨Nat.le_of_ble_eq_true rfl, Nat.le_of_ble_eq_true rfl⟩)) (fun k1 hk1 => ?_)
    by_cases c2 : (pX2_tableOf b a1) = 0
    · have hf := it_eq c2 hf
      have hok := it_ok c2 hok
      obtain rfl : k1 = 0 := hk1.trans c2
      refine lv_astore_n (lv' := [(3, .ref (qb 1)), (0, .ref (qk 0)), (1, .int a1), (2, .int a2)]) hx hb dX11_remove_17 rfl hl (by decide) rfl (fun ls hl => ?_)
      refine lv_aload_n hx hb dX11_remove_18 rfl (lv_at hl 0 rfl) ?_
      refine lv_iload_n hx hb dX11_remove_19 rfl (lv_at hl 3 rfl) ?_
      have hPc := hP.sub (ws' := tw (tad (qb 1) (qb 2)) cI 8 9 72 (b.1 4, b.2 0)) [1, 2] rfl
      refine gro_i (va_runV (As := [.int a2]) (rest := []) ⟨hx, hb, hml, hown, hts⟩ (mX9_has l dC dI cI cB cO cL (tad (qb 1) (qb 2)) 8 9 72 (b.1 4, b.2 0) a2  ) (cwV 1 hts gX11_remove_X9_has rfl rfl rfl (by decide +kernel) ⟨Nat.le_of_ble_eq_true rfl, Nat.le_of_ble_eq_true rfl⟩) ⟨cP_blind, va_recv hK hPc (ci := 6) (q0 := 0) rfl rfl, cP_ok hPc hK hE⟩ rfl rfl hl.1 rfl (lv_room (Nat.le_of_ble_eq_true rfl)) dX11_remove_20 ⟨Nat.le_of_ble_eq_true rfl, Nat.le_of_ble_eq_true rfl⟩) ?_
      refine x_callS (vx_runS (As := [.int (bz (pX9_has 8 9 72 (b.1 4, b.2 0) a2))]) (rest := []) ⟨hx, hb, hml, hown, hts⟩ (mX11_requireThere l hfl dC dI cI cB cO cL N0 sT eA H.size (Nat.le_trans hsz hS.1) (pX9_has 8 9 72 (b.1 4, b.2 0) a2)) (va_cwS 1 hts gX11_remove_X11_requireThere rfl rfl rfl (by decide +kernel) ⟨Nat.le_of_ble_eq_true rfl, Nat.le_of_ble_eq_true rfl⟩) ⟨zP_blind, zP_ok va_P_nil hK hF hS hN⟩ rfl rfl hl.1 rfl (lv_room (Nat.le_of_ble_eq_true rfl)) dX11_remove_23 ⟨Nat.le_of_ble_eq_true rfl, Nat.le_of_ble_eq_true rfl⟩) hP hS hA0 (fun hne q9 ce H locs hP hS hce hcv hcl => ?_) (fun h0 H locs hP hS => ?_)
      · exact x_out htab hlocks hne ((xb_1 hne hf).symm.trans hFe) hP hS hce hcv hcl rfl rfl
      · have hf := xb_0 h0 hf
        have hok := xk_0 h0 hok
        refine lv_aload_n hx hb dX11_remove_26 rfl (lv_at hl 1 rfl) ?_
        obtain ⟨h3, hok⟩ := hok
        refine gms_v (va_runV (As := []) (rest := []) ⟨hx, hb, hml, hown, hts⟩ (mX11_saveState l dC dI cI cB cO cL qb qs qu qk qr qe qx qd b s9 u kk (gD_any hD) h3) (cwV 0 hts gX11_remove_X11_saveState rfl rfl rfl (by decide +kernel) ⟨Nat.le_of_ble_eq_true rfl, Nat.le_of_ble_eq_true rfl⟩) ⟨cP_blind, va_recv hK hP (ci := 8) (q0 := 52) rfl rfl, cP_ok hP hK hE⟩ rfl rfl hl.1 rfl (lv_room (Nat.le_of_ble_eq_true rfl)) dX11_remove_27 ⟨Nat.le_of_ble_eq_true rfl, Nat.le_of_ble_eq_true rfl⟩) hP (gD_va hD rfl) hS (fun u5 H locs hw hP hS => ?_)
        have hP : va_P (dC, dI) vwCl (bw qb cI u5.1 ++ sw qs cI u5.2.1 ++ uw qu cI cB u5.2.2.1 ++ kw qk qb qr qe qs qu qx qd cI u5.2.2.2) H := hP
        have hf := lt_eq hw hf
        have hok := lt_ok hw hok
        refine lv_aload_n hx hb dX11_remove_30 rfl (lv_at hl 0 rfl) ?_
        refine lv_iload_n hx hb dX11_remove_31 rfl (lv_at hl 3 rfl) ?_
        have h6 : kX9_dropRow 8 9 72 (u5.1.1 4, u5.1.2 0) a2 := hok
        have hPc := hP.sub (ws' := tw (tad (qb 1) (qb 2)) cI 8 9 72 (u5.1.1 4, u5.1.2 0)) [1, 2] rfl
        refine gmu_v (va_runV (As := [.int a2]) (rest := []) ⟨hx, hb, hml, hown, hts⟩ (mX9_dropRow l dC dI cI cB cO cL (tad (qb 1) (qb 2)) 8 9 72 (u5.1.1 4, u5.1.2 0) a2 (gD_subT hD [1, 2] rfl rfl) h6) (cwV 1 hts gX11_remove_X9_dropRow rfl rfl rfl (by decide +kernel) ⟨Nat.le_of_ble_eq_true rfl, Nat.le_of_ble_eq_true rfl⟩) ⟨cP_blind, va_recv hK hPc (ci := 6) (q0 := 0) rfl rfl, cP_ok hPc hK hE⟩ rfl rfl hl.1 rfl (lv_room (Nat.le_of_ble_eq_true rfl)) dX11_remove_32 ⟨Nat.le_of_ble_eq_true rfl, Nat.le_of_ble_eq_true rfl⟩) hP (gD_va hD rfl) hS [1, 2] rfl (fun _ => rfl) (fun u8 H locs hw hP hS => ?_)
        have hP : va_P (dC, dI) vwCl (bw qb cI (bst u5.1 0 u8) ++ sw qs cI u5.2.1 ++ uw qu cI cB u5.2.2.1 ++ kw qk qb qr qe qs qu qx qd cI u5.2.2.2) H := hP
        have hf := lt_eq hw hf
        refine lv_aload_n hx hb dX11_remove_35 rfl (lv_at hl 0 rfl) ?_
        refine va_get (D := (dC, dI)) (ci := 6) (v := .int ((bst u5.1 0 u8).1 4)) (C := RX9) (T := TX9) (N := 4) hx hb hts hin9 hown hK hP 1 rfl rfl 3 (by decide) fl131 (fun _ h9 => h9) rfl dX11_remove_36 ?_
        exact e_yi C0 (hf.symm.trans hFe) hP hS rfl rfl dX11_remove_39
    · have hf := ie_eq c2 hf
      have hok := ie_ok c2 hok
      by_cases c9 : (pX2_tableOf b a1) = 1
      · have hf := it_eq c9 hf
        have hok := it_ok c9 hok
        obtain rfl : k1 = 1 := hk1.trans c9
        refine lv_astore_n (lv' := [(3, .ref (qb 3)), (0, .ref (qk 0)), (1, .int a1), (2, .int a2)]) hx hb dX11_remove_17 rfl hl (by decide) rfl (fun ls hl => ?_)
        refine lv_aload_n hx hb dX11_remove_18 rfl (lv_at hl 0 rfl) ?_
        refine lv_iload_n hx hb dX11_remove_19 rfl (lv_at hl 3 rfl) ?_
        have hPc := hP.sub (ws' := tw (tad (qb 3) (qb 4)) cI 4 3 12 (b.1 5, b.2 1)) [3, 4] rfl
        refine gro_i (va_runV (As := [.int a2]) (rest := []) ⟨hx, hb, hml, hown, hts⟩ (mX9_has l dC dI cI cB cO cL (tad (qb 3) (qb 4)) 4 3 12 (b.1 5, b.2 1) a2  ) (cwV 1 hts gX11_remove_X9_has rfl rfl rfl (by decide +kernel) ⟨Nat.le_of_ble_eq_true rfl, Nat.le_of_ble_eq_true rfl⟩) ⟨cP_blind, va_recv hK hPc (ci := 6) (q0 := 0) rfl rfl, cP_ok hPc hK hE⟩ rfl rfl hl.1 rfl (lv_room (Nat.le_of_ble_eq_true rfl)) dX11_remove_20 ⟨Nat.le_of_ble_eq_true rfl, Nat.le_of_ble_eq_true rfl⟩) ?_
        refine x_callS (vx_runS (As := [.int (bz (pX9_has 4 3 12 (b.1 5, b.2 1) a2))]) (rest := []) ⟨hx, hb, hml, hown, hts⟩ (mX11_requireThere l hfl dC dI cI cB cO cL N0 sT eA H.size (Nat.le_trans hsz hS.1) (pX9_has 4 3 12 (b.1 5, b.2 1) a2)) (va_cwS 1 hts gX11_remove_X11_requireThere rfl rfl rfl (by decide +kernel) ⟨Nat.le_of_ble_eq_true rfl, Nat.le_of_ble_eq_true rfl⟩) ⟨zP_blind, zP_ok va_P_nil hK hF hS hN⟩ rfl rfl hl.1 rfl (lv_room (Nat.le_of_ble_eq_true rfl)) dX11_remove_23 ⟨Nat.le_of_ble_eq_true rfl, Nat.le_of_ble_eq_true rfl⟩) hP hS hA0 (fun hne q9 ce H locs hP hS hce hcv hcl => ?_) (fun h0 H locs hP hS => ?_)
        · exact x_out htab hlocks hne ((xb_1 hne hf).symm.trans hFe) hP hS hce hcv hcl rfl rfl
        · have hf := xb_0 h0 hf
          have hok := xk_0 h0 hok
          refine lv_aload_n hx hb dX11_remove_26 rfl (lv_at hl 1 rfl) ?_
          obtain ⟨h10, hok⟩ := hok
          refine gms_v (va_runV (As := []) (rest := []) ⟨hx, hb, hml, hown, hts⟩ (mX11_saveState l dC dI cI cB cO cL qb qs qu qk qr qe qx qd b s9 u kk (gD_any hD) h10) (cwV 0 hts gX11_remove_X11_saveState rfl rfl rfl (by decide +kernel) ⟨Nat.le_of_ble_eq_true rfl, Nat.le_of_ble_eq_true rfl⟩) ⟨cP_blind, va_recv hK hP (ci := 8) (q0 := 52) rfl rfl, cP_ok hP hK hE⟩ rfl rfl hl.1 rfl (lv_room (Nat.le_of_ble_eq_true rfl)) dX11_remove_27 ⟨Nat.le_of_ble_eq_true rfl, Nat.le_of_ble_eq_true rfl⟩) hP (gD_va hD rfl) hS (fun u12 H locs hw hP hS => ?_)
          have hP : va_P (dC, dI) vwCl (bw qb cI u12.1 ++ sw qs cI u12.2.1 ++ uw qu cI cB u12.2.2.1 ++ kw qk qb qr qe qs qu qx qd cI u12.2.2.2) H := hP
          have hf := lt_eq hw hf
          have hok := lt_ok hw hok
          refine lv_aload_n hx hb dX11_remove_30 rfl (lv_at hl 0 rfl) ?_
          refine lv_iload_n hx hb dX11_remove_31 rfl (lv_at hl 3 rfl) ?_
          have h13 : kX9_dropRow 4 3 12 (u12.1.1 5, u12.1.2 1) a2 := hok
          have hPc := hP.sub (ws' := tw (tad (qb 3) (qb 4)) cI 4 3 12 (u12.1.1 5, u12.1.2 1)) [3, 4] rfl
          refine gmu_v (va_runV (As := [.int a2]) (rest := []) ⟨hx, hb, hml, hown, hts⟩ (mX9_dropRow l dC dI cI cB cO cL (tad (qb 3) (qb 4)) 4 3 12 (u12.1.1 5, u12.1.2 1) a2 (gD_subT hD [3, 4] rfl rfl) h13) (cwV 1 hts gX11_remove_X9_dropRow rfl rfl rfl (by decide +kernel) ⟨Nat.le_of_ble_eq_true rfl, Nat.le_of_ble_eq_true rfl⟩) ⟨cP_blind, va_recv hK hPc (ci := 6) (q0 := 0) rfl rfl, cP_ok hPc hK hE⟩ rfl rfl hl.1 rfl (lv_room (Nat.le_of_ble_eq_true rfl)) dX11_remove_32 ⟨Nat.le_of_ble_eq_true rfl, Nat.le_of_ble_eq_true rfl⟩) hP (gD_va hD rfl) hS [3, 4] rfl (fun _ => rfl) (fun u15 H locs hw hP hS => ?_)
          have hP : va_P (dC, dI) vwCl (bw qb cI (bst u12.1 1 u15) ++ sw qs cI u12.2.1 ++ uw qu cI cB u12.2.2.1 ++ kw qk qb qr qe qs qu qx qd cI u12.2.2.2) H := hP
          have hf := lt_eq hw hf
          refine lv_aload_n hx hb dX11_remove_35 rfl (lv_at hl 0 rfl) ?_
          refine va_get (D := (dC, dI)) (ci := 6) (v := .int ((bst u12.1 1 u15).1 5)) (C := RX9) (T := TX9) (N := 4) hx hb hts hin9 hown hK hP 3 rfl rfl 3 (by decide) fl131 (fun _ h9 => h9) rfl dX11_remove_36 ?_
          exact e_yi C0 (hf.symm.trans hFe) hP hS rfl rfl dX11_remove_39
      · have hf := ie_eq c9 hf
        have hok := ie_ok c9 hok
        by_cases c16 : (pX2_tableOf b a1) = 2
        · have hf := it_eq c16 hf
          have hok := it_ok c16 hok
          obtain rfl : k1 = 2 := hk1.trans c16
          refine lv_astore_n (lv' := [(3, .ref (qb 5)), (0, .ref (qk 0)), (1, .int a1), (2, .int a2)]) hx hb dX11_remove_17 rfl hl (by decide) rfl (fun ls hl => ?_)
          refine lv_aload_n hx hb dX11_remove_18 rfl (lv_at hl 0 rfl) ?_
          refine lv_iload_n hx hb dX11_remove_19 rfl (lv_at hl 3 rfl) ?_
          have hPc := hP.sub (ws' := tw (tad (qb 5) (qb 6)) cI 4 4 16 (b.1 6, b.2 2)) [5, 6] rfl
          refine gro_i (va_runV (As := [.int a2]) (rest := []) ⟨hx, hb, hml, hown, hts⟩ (mX9_has l dC dI cI cB cO cL (tad (qb 5) (qb 6)) 4 4 16 (b.1 6, b.2 2) a2  ) (cwV 1 hts gX11_remove_X9_has rfl rfl rfl (by decide +kernel) ⟨Nat.le_of_ble_eq_true rfl, Nat.le_of_ble_eq_true rfl⟩) ⟨cP_blind, va_recv hK hPc (ci := 6) (q0 := 0) rfl rfl, cP_ok hPc hK hE⟩ rfl rfl hl.1 rfl (lv_room (Nat.le_of_ble_eq_true rfl)) dX11_remove_20 ⟨Nat.le_of_ble_eq_true rfl, Nat.le_of_ble_eq_true rfl⟩) ?_
          refine x_callS (vx_runS (As := [.int (bz (pX9_has 4 4 16 (b.1 6, b.2 2) a2))]) (rest := []) ⟨hx, hb, hml, hown, hts⟩ (mX11_requireThere l hfl dC dI cI cB cO cL N0 sT eA H.size (Nat.le_trans hsz hS.1) (pX9_has 4 4 16 (b.1 6, b.2 2) a2)) (va_cwS 1 hts gX11_remove_X11_requireThere rfl rfl rfl (by decide +kernel) ⟨Nat.le_of_ble_eq_true rfl, Nat.le_of_ble_eq_true rfl⟩) ⟨zP_blind, zP_ok va_P_nil hK hF hS hN⟩ rfl rfl hl.1 rfl (lv_room (Nat.le_of_ble_eq_true rfl)) dX11_remove_23 ⟨Nat.le_of_ble_eq_true rfl, Nat.le_of_ble_eq_true rfl⟩) hP hS hA0 (fun hne q9 ce H locs hP hS hce hcv hcl => ?_) (fun h0 H locs hP hS => ?_)
          · exact x_out htab hlocks hne ((xb_1 hne hf).symm.trans hFe) hP hS hce hcv hcl rfl rfl
          · have hf := xb_0 h0 hf
            have hok := xk_0 h0 hok
            refine lv_aload_n hx hb dX11_remove_26 rfl (lv_at hl 1 rfl) ?_
            obtain ⟨h17, hok⟩ := hok
            refine gms_v (va_runV (As := []) (rest := []) ⟨hx, hb, hml, hown, hts⟩ (mX11_saveState l dC dI cI cB cO cL qb qs qu qk qr qe qx qd b s9 u kk (gD_any hD) h17) (cwV 0 hts gX11_remove_X11_saveState rfl rfl rfl (by decide +kernel) ⟨Nat.le_of_ble_eq_true rfl, Nat.le_of_ble_eq_true rfl⟩) ⟨cP_blind, va_recv hK hP (ci := 8) (q0 := 52) rfl rfl, cP_ok hP hK hE⟩ rfl rfl hl.1 rfl (lv_room (Nat.le_of_ble_eq_true rfl)) dX11_remove_27 ⟨Nat.le_of_ble_eq_true rfl, Nat.le_of_ble_eq_true rfl⟩) hP (gD_va hD rfl) hS (fun u19 H locs hw hP hS => ?_)
            have hP : va_P (dC, dI) vwCl (bw qb cI u19.1 ++ sw qs cI u19.2.1 ++ uw qu cI cB u19.2.2.1 ++ kw qk qb qr qe qs qu qx qd cI u19.2.2.2) H := hP
            have hf := lt_eq hw hf
            have hok := lt_ok hw hok
            refine lv_aload_n hx hb dX11_remove_30 rfl (lv_at hl 0 rfl) ?_
            refine lv_iload_n hx hb dX11_remove_31 rfl (lv_at hl 3 rfl) ?_
            have h20 : kX9_dropRow 4 4 16 (u19.1.1 6, u19.1.2 2) a2 := hok
            have hPc := hP.sub (ws' := tw (tad (qb 5) (qb 6)) cI 4 4 16 (u19.1.1 6, u19.1.2 2)) [5, 6] rfl
            refine gmu_v (va_runV (As := [.int a2]) (rest := []) ⟨hx, hb, hml, hown, hts⟩ (mX9_dropRow l dC dI cI cB cO cL (tad (qb 5) (qb 6)) 4 4 16 (u19.1.1 6, u19.1.2 2) a2 (gD_subT hD [5, 6] rfl rfl) h20) (cwV 1 hts gX11_remove_X9_dropRow rfl rfl rfl (by decide +kernel) ⟨Nat.le_of_ble_eq_true rfl, Nat.le_of_ble_eq_true rfl⟩) ⟨cP_blind, va_recv hK hPc (ci := 6) (q0 := 0) rfl rfl, cP_ok hPc hK hE⟩ rfl rfl hl.1 rfl (lv_room (Nat.le_of_ble_eq_true rfl)) dX11_remove_32 ⟨Nat.le_of_ble_eq_true rfl, Nat.le_of_ble_eq_true rfl⟩) hP (gD_va hD rfl) hS [5, 6] rfl (fun _ => rfl) (fun u22 H locs hw hP hS => ?_)
            have hP : va_P (dC, dI) vwCl (bw qb cI (bst u19.1 2 u22) ++ sw qs cI u19.2.1 ++ uw qu cI cB u19.2.2.1 ++ kw qk qb qr qe qs qu qx qd cI u19.2.2.2) H := hP
            have hf := lt_eq hw hf
            refine lv_aload_n hx hb dX11_remove_35 rfl (lv_at hl 0 rfl) ?_
            refine va_get (D := (dC, dI)) (ci := 6) (v := .int ((bst u19.1 2 u22).1 6)) (C := RX9) (T := TX9) (N := 4) hx hb hts hin9 hown hK hP 5 rfl rfl 3 (by decide) fl131 (fun _ h9 => h9) rfl dX11_remove_36 ?_
            exact e_yi C0 (hf.symm.trans hFe) hP hS rfl rfl dX11_remove_39
        · have hf := ie_eq c16 hf
          have hok := ie_ok c16 hok
          obtain ⟨c23, hok⟩ := hok
          obtain rfl : k1 = 3 := hk1.trans c23
          refine lv_astore_n (lv' := [(3, .ref (qb 7)), (0, .ref (qk 0)), (1, .int a1), (2, .int a2)]) hx hb dX11_remove_17 rfl hl (by decide) rfl (fun ls hl => ?_)
          refine lv_aload_n hx hb dX11_remove_18 rfl (lv_at hl 0 rfl) ?_
          refine lv_iload_n hx hb dX11_remove_19 rfl (lv_at hl 3 rfl) ?_
          have hPc := hP.sub (ws' := tw (tad (qb 7) (qb 8)) cI 7 1 7 (b.1 7, b.2 3)) [7, 8] rfl
          refine gro_i (va_runV (As := [.int a2]) (rest := []) ⟨hx, hb, hml, hown, hts⟩ (mX9_has l dC dI cI cB cO cL (tad (qb 7) (qb 8)) 7 1 7 (b.1 7, b.2 3) a2  ) (cwV 1 hts gX11_remove_X9_has rfl rfl rfl (by decide +kernel) ⟨Nat.le_of_ble_eq_true rfl, Nat.le_of_ble_eq_true rfl⟩) ⟨cP_blind, va_recv hK hPc (ci := 6) (q0 := 0) rfl rfl, cP_ok hPc hK hE⟩ rfl rfl hl.1 rfl (lv_room (Nat.le_of_ble_eq_true rfl)) dX11_remove_20 ⟨Nat.le_of_ble_eq_true rfl, Nat.le_of_ble_eq_true rfl⟩) ?_
          refine x_callS (vx_runS (As := [.int (bz (pX9_has 7 1 7 (b.1 7, b.2 3) a2))]) (rest := []) ⟨hx, hb, hml, hown, hts⟩ (mX11_requireThere l hfl dC dI cI cB cO cL N0 sT eA H.size (Nat.le_trans hsz hS.1) (pX9_has 7 1 7 (b.1 7, b.2 3) a2)) (va_cwS 1 hts gX11_remove_X11_requireThere rfl rfl rfl (by decide +kernel) ⟨Nat.le_of_ble_eq_true rfl, Nat.le_of_ble_eq_true rfl⟩) ⟨zP_blind, zP_ok va_P_nil hK hF hS hN⟩ rfl rfl hl.1 rfl (lv_room (Nat.le_of_ble_eq_true rfl)) dX11_remove_23 ⟨Nat.le_of_ble_eq_true rfl, Nat.le_of_ble_eq_true rfl⟩) hP hS hA0 (fun hne q9 ce H locs hP hS hce hcv hcl => ?_) (fun h0 H locs hP hS => ?_)
          · exact x_out htab hlocks hne ((xb_1 hne hf).symm.trans hFe) hP hS hce hcv hcl rfl rfl
          · have hf := xb_0 h0 hf
            have hok := xk_0 h0 hok
            refine lv_aload_n hx hb dX11_remove_26 rfl (lv_at hl 1 rfl) ?_
            obtain ⟨h24, hok⟩ := hok
            refine gms_v (va_runV (As := []) (rest := []) ⟨hx, hb, hml, hown, hts⟩ (mX11_saveState l dC dI cI cB cO cL qb qs qu qk qr qe qx qd b s9 u kk (gD_any hD) h24) (cwV 0 hts gX11_remove_X11_saveState rfl rfl rfl (by decide +kernel) ⟨Nat.le_of_ble_eq_true rfl, Nat.le_of_ble_eq_true rfl⟩) ⟨cP_blind, va_recv hK hP (ci := 8) (q0 := 52) rfl rfl, cP_ok hP hK hE⟩ rfl rfl hl.1 rfl (lv_room (Nat.le_of_ble_eq_true rfl)) dX11_remove_27 ⟨Nat.le_of_ble_eq_true rfl, Nat.le_of_ble_eq_true rfl⟩) hP (gD_va hD rfl) hS (fun u26 H locs hw hP hS => ?_)
            have hP : va_P (dC, dI) vwCl (bw qb cI u26.1 ++ sw qs cI u26.2.1 ++ uw qu cI cB u26.2.2.1 ++ kw qk qb qr qe qs qu qx qd cI u26.2.2.2) H := hP
            have hf := lt_eq hw hf
            have hok := lt_ok hw hok
            refine lv_aload_n hx hb dX11_remove_30 rfl (lv_at hl 0 rfl) ?_
            refine lv_iload_n hx hb dX11_remove_31 rfl (lv_at hl 3 rfl) ?_
            have h27 : kX9_dropRow 7 1 7 (u26.1.1 7, u26.1.2 3) a2 := hok
            have hPc := hP.sub (ws' := tw (tad (qb 7) (qb 8)) cI 7 1 7 (u26.1.1 7, u26.1.2 3)) [7, 8] rfl
            refine gmu_v (va_runV (As := [.int a2]) (rest := []) ⟨hx, hb, hml, hown, hts⟩ (mX9_dropRow l dC dI cI cB cO cL (tad (qb 7) (qb 8)) 7 1 7 (u26.1.1 7, u26.1.2 3) a2 (gD_subT hD [7, 8] rfl rfl) h27) (cwV 1 hts gX11_remove_X9_dropRow rfl rfl rfl (by decide +kernel) ⟨Nat.le_of_ble_eq_true rfl, Nat.le_of_ble_eq_true rfl⟩) ⟨cP_blind, va_recv hK hPc (ci := 6) (q0 := 0) rfl rfl, cP_ok hPc hK hE⟩ rfl rfl hl.1 rfl (lv_room (Nat.le_of_ble_eq_true rfl)) dX11_remove_32 ⟨Nat.le_of_ble_eq_true rfl, Nat.le_of_ble_eq_true rfl⟩) hP (gD_va hD rfl) hS [7, 8] rfl (fun _ => rfl) (fun u29 H locs hw hP hS => ?_)
            have hP : va_P (dC, dI) vwCl (bw qb cI (bst u26.1 3 u29) ++ sw qs cI u26.2.1 ++ uw qu cI cB u26.2.2.1 ++ kw qk qb qr qe qs qu qx qd cI u26.2.2.2) H := hP
            have hf := lt_eq hw hf
            refine lv_aload_n hx hb dX11_remove_35 rfl (lv_at hl 0 rfl) ?_
            refine va_get (D := (dC, dI)) (ci := 6) (v := .int ((bst u26.1 3 u29).1 7)) (C := RX9) (T := TX9) (N := 4) hx hb hts hin9 hown hK hP 7 rfl rfl 3 (by decide) fl131 (fun _ h9 => h9) rfl dX11_remove_36 ?_
            exact e_yi C0 (hf.symm.trans hFe) hP hS rfl rfl dX11_remove_39
abbrev rX11_setS : Room := { frames := 8, cells := 4, slots := 24, locals := 132 }
set_option maxHeartbeats 4000000 in
set_option maxRecDepth 100000 in
theorem mX11_setS (l : Launch) (hfl : l.stackTraces = false) (dC : Nat → ClassId) (dI : Nat → Nat → Nat) (cI cB cO cL : ClassId) (N0 : Nat) (sT eA : Nat → Nat) (qb : Nat → Nat) (qs : Nat → Nat) (qu : Nat → Nat) (qk : Nat → Nat) (qr : Nat → Nat) (qe : Nat → Nat) (qx : Nat → Nat) (qd : Nat → Nat) (b : BS) (s9 : SS) (u : US) (kk : Int32) (a1 : Int32) (sz : Nat) (hsz : N0 ≤ sz) (hI : gD (fun _ => True) (bAd qb ++ sAd qs ++ uAd qu ++ kAd qk)) (hN9 : ∀ a ∈ (bAd qb ++ sAd qs ++ uAd qu ++ kAd qk : List Nat), N0 ≤ a) (hok : kX11_setS b s9 u kk a1) : vx_Met l yX11_setS wsX11_setS rX11_setS (zP N0 sz sT eA (dC, dI) (tYS cI cB cO cL) (bw qb cI b ++ sw qs cI s9 ++ uw qu cI cB u ++ kw qk qb qr qe qs qu qx qd cI kk) [.ref (qk 0), .int a1]) (yQi (dC, dI) (fun z9 : BS × SS × US × Int32 => bw qb cI z9.1 ++ sw qs cI z9.2.1 ++ uw qu cI cB z9.2.2.1 ++ kw qk qb qr qe qs qu qx qd cI z9.2.2.2) (va_A (bw qb cI b ++ sw qs cI s9 ++ uw qu cI cB u ++ kw qk qb qr qe qs qu qx qd cI kk) sz) (pX11_setS b s9 u kk a1)) (yX (dC, dI) (fun z9 : BS × SS × US × Int32 => bw qb cI z9.1 ++ sw qs cI z9.2.1 ++ uw qu cI cB z9.2.2.1 ++ kw qk qb qr qe qs qu qx qd cI z9.2.2.2) (va_A (bw qb cI b ++ sw qs cI s9 ++ uw qu cI cB u ++ kw qk qb qr qe qs qu qx qd cI kk) sz) (pX11_setS b s9 u kk a1)) 4 24 (va_A (bw qb cI b ++ sw qs cI s9 ++ uw qu cI cB u ++ kw qk qb qr qe qs qu qx qd cI kk) sz) := by
  refine zMet (cc := cX11_setS) (maxL := 3) (ret := some .int) [(0, .ref (qk 0)), (1, .int a1)] (by decide) rfl rfl rfl ?_
  intro p e s mi below meth c C0 htab hz hK hF hP ls hl
  obtain ⟨hx, hb, hr, hml, hown, hts, hlocks⟩ := id C0
  have hown : s.vm.findClass RX11 = some mi.cls := hown
  have hE := hF.1
  subst hz
  have hA0 : ∀ q : Nat, s.heap.size ≤ q → (va_A (bw qb cI b ++ sw qs cI s9 ++ uw qu cI cB u ++ kw qk qb qr qe qs qu qx qd cI kk) s.heap.size) q := fun q h => Or.inr h
  have hN : ∀ q : Nat, (va_A (bw qb cI b ++ sw qs cI s9 ++ uw qu cI cB u ++ kw qk qb qr qe qs qu qx qd cI kk) s.heap.size) q → N0 ≤ q := vA_N (ws := bw qb cI b ++ sw qs cI s9 ++ uw qu cI cB u ++ kw qk qb qr qe qs qu qx qd cI kk) hN9 hsz
  have hH := hF.2.2.narrow hN
  have hS : va_S (va_A (bw qb cI b ++ sw qs cI s9 ++ uw qu cI cB u ++ kw qk qb qr qe qs qu qx qd cI kk) s.heap.size) s.heap s.heap [] := va_S.rf
  have hD : gD (va_A (bw qb cI b ++ sw qs cI s9 ++ uw qu cI cB u ++ kw qk qb qr qe qs qu qx qd cI kk) s.heap.size) (bAd qb ++ sAd qs ++ uAd qu ++ kAd qk) := gD_vA (ws := bw qb cI b ++ sw qs cI s9 ++ uw qu cI cB u ++ kw qk qb qr qe qs qu qx qd cI kk) hI
  have hP : va_P (dC, dI) vwCl (bw qb cI b ++ sw qs cI s9 ++ uw qu cI cB u ++ kw qk qb qr qe qs qu qx qd cI kk) s.heap := hP
  obtain ⟨F, hFe⟩ : ∃ F, F = pX11_setS b s9 u kk a1 := ⟨_, rfl⟩
  have hf := hFe
  have hin11 : ∀ w ∈ u_ws RX11 TX11 8, w ∈ wsX11_setS := by decide +kernel
  have hin2 : ∀ w ∈ u_ws RX2 TX2 8, w ∈ wsX11_setS := by decide +kernel
  have fl10 := hts (.fieldLink RX11 10 "ClickBench" "bench" "LClickBench$Bench;") (by decide +kernel)
  have fl140 := hts (.fieldLink RX11 140 "ClickBench$Bench" "s" "I") (by decide +kernel)
  have J_9 : ∀ (v1_9 : Int32) (t0_9 : Bool) (b_9 : BS) (s9_9 : SS) (u_9 : US) (kk_9 : Int32) (H : Heap) (locs : List Loc), va_P (dC, dI) vwCl (bw qb cI b_9 ++ sw qs cI s9_9 ++ uw qu cI cB u_9 ++ kw qk qb qr qe qs qu qx qd cI kk_9) H → va_S (va_A (bw qb cI b ++ sw qs cI s9 ++ uw qu cI cB u ++ kw qk qb qr qe qs qu qx qd cI kk) s.heap.size) s.heap H locs → ∀ ls : Array Slot, lv_has ls 3 [(0, .ref (qk 0)), (1, .int v1_9)] → F = pX11_setS_L9 v1_9 t0_9 b_9 s9_9 u_9 kk_9 → kX11_setS_L9 v1_9 t0_9 b_9 s9_9 u_9 kk_9 → W p l e rX11_setS s mi ([.ref (qk 0), .int a1] : List Value).toArray below meth c H locs 0 0 (vx_MQ below (yQi (dC, dI) (fun z9 : BS × SS × US × Int32 => bw qb cI z9.1 ++ sw qs cI z9.2.1 ++ uw qu cI cB z9.2.2.1 ++ kw qk qb qr qe qs qu qx qd cI z9.2.2.2) (va_A (bw qb cI b ++ sw qs cI s9 ++ uw qu cI cB u ++ kw qk qb qr qe qs qu qx qd cI kk) s.heap.size) (pX11_setS b s9 u kk a1)) (yX (dC, dI) (fun z9 : BS × SS × US × Int32 => bw qb cI z9.1 ++ sw qs cI z9.2.1 ++ uw qu cI cB z9.2.2.1 ++ kw qk qb qr qe qs qu qx qd cI z9.2.2.2) (va_A (bw qb cI b ++ sw qs cI s9 ++ uw qu cI cB u ++ kw qk qb qr qe qs qu qx qd cI kk) s.heap.size) (pX11_setS b s9 u kk a1)) ([.ref (qk 0), .int a1] : List Value).toArray s 4 24 (va_A (bw qb cI b ++ sw qs cI s9 ++ uw qu cI cB u ++ kw qk qb qr qe qs qu qx qd cI kk) s.heap.size)) (F0 mi 9 ls [.int (bz t0_9)]) := by
    intro v1_9 t0_9 b_9 s9_9 u_9 kk_9 H locs hP hS ls hl hf hok
    refine x_callS (vx_runS (As := [.int (bz t0_9)]) (rest := []) ⟨hx, hb, hml, hown, hts⟩ (mX11_requireRange l hfl dC dI cI cB cO cL N0 sT eA H.size (Nat.le_trans hsz hS.1) t0_9) (va_cwS 1 hts gX11_setS_X11_requireRange rfl rfl rfl (by decide +kernel) ⟨Nat.le_of_ble_eq_true rfl, Nat.le_of_ble_eq_true rfl⟩) ⟨zP_blind, zP_ok va_P_nil hK hF hS hN⟩ rfl rfl hl.1 rfl (lv_room (Nat.le_of_ble_eq_true rfl)) dX11_setS_9 ⟨Nat.le_of_ble_eq_true rfl, Nat.le_of_ble_eq_true rfl⟩) hP hS hA0 (fun hne q9 ce H locs hP hS hce hcv hcl => ?_) (fun h0 H locs hP hS => ?_)
    · exact x_out htab hlocks hne ((xb_1 hne hf).symm.trans hFe) hP hS hce hcv hcl rfl rfl
    · have hf := xb_0 h0 hf
      have hok := xk_0 h0 hok
      refine lv_aload_n hx hb dX11_setS_12 rfl (lv_at hl 0 rfl) ?_
      have h2 : kX11_saveState b_9 s9_9 u_9 kk_9 := hok
      refine gms_v (va_runV (As := []) (rest := []) ⟨hx, hb, hml, hown, hts⟩ (mX11_saveState l dC dI cI cB cO cL qb qs qu qk qr qe qx qd b_9 s9_9 u_9 kk_9 (gD_any hD) h2) (cwV 0 hts gX11_setS_X11_saveState rfl rfl rfl (by decide +kernel) ⟨Nat.le_of_ble_eq_true rfl, Nat.le_of_ble_eq_true rfl⟩) ⟨cP_blind, va_recv hK hP (ci := 8) (q0 := 52) rfl rfl, cP_ok hP hK hE⟩ rfl rfl hl.1 rfl (lv_room (Nat.le_of_ble_eq_true rfl)) dX11_setS_13 ⟨Nat.le_of_ble_eq_true rfl, Nat.le_of_ble_eq_true rfl⟩) hP (gD_va hD rfl) hS (fun u4 H locs hw hP hS => ?_)
      have hP : va_P (dC, dI) vwCl (bw qb cI u4.1 ++ sw qs cI u4.2.1 ++ uw qu cI cB u4.2.2.1 ++ kw qk qb qr qe qs qu qx qd cI u4.2.2.2) H := hP
      have hf := lt_eq hw hf
      refine lv_aload_n hx hb dX11_setS_16 rfl (lv_at hl 0 rfl) ?_
      refine va_get (D := (dC, dI)) (ci := 8) (v := .ref (qb 0)) (C := RX11) (T := TX11) (N := 8) hx hb hts hin11 hown hK hP 52 rfl rfl 0 (by decide) fl10 (fun _ h9 => h9) rfl dX11_setS_17 ?_
      refine va_get (D := (dC, dI)) (ci := 1) (v := .int (u4.1.1 3)) (C := RX2) (T := TX2) (N := 8) hx hb hts hin2 hown hK hP 0 rfl rfl 3 (by decide) fl140 (fun _ h9 => h9) rfl dX11_setS_20 ?_
      refine lv_topi (fun x5 ex5 => ?_)
      have hf := lt_eq ex5 hf
      refine lv_istore_n (lv' := [(2, .int x5), (0, .ref (qk 0)), (1, .int v1_9)]) hx hb dX11_setS_23 rfl hl (by decide) rfl (fun ls hl => ?_)
      refine lv_aload_n hx hb dX11_setS_24 rfl (lv_at hl 1 rfl) ?_
      refine va_get (D := (dC, dI)) (ci := 8) (v := .ref (qb 0)) (C := RX11) (T := TX11) (N := 8) hx hb hts hin11 hown hK hP 52 rfl rfl 0 (by decide) fl10 (fun _ h9 => h9) rfl dX11_setS_25 ?_
      refine lv_iload_n hx hb dX11_setS_28 rfl (lv_at hl 2 rfl) ?_
      refine va_put (D := (dC, dI)) (ci := 1) (v := .int v1_9) (ty := .int) (C := RX2) (T := TX2) (N := 8) hx hb hts hin2 tyX2 tyX2_ok nmX2 hown hK hP (gD_va hD rfl) hS 0 rfl rfl 3 (by decide) fl140 (fun _ h9 => h9) rfl (by decide +kernel) rfl rfl (Nat.le_of_ble_eq_true rfl) dX11_setS_29 (fun H locs hP _ hS => ?_)
      obtain ⟨b_6, eb_6⟩ : ∃ z9 : BS, z9 = bsi u4.1 3 v1_9 := ⟨_, rfl⟩
      have hP : va_P (dC, dI) vwCl (bw qb cI b_6 ++ sw qs cI u4.2.1 ++ uw qu cI cB u4.2.2.1 ++ kw qk qb qr qe qs qu qx qd cI u4.2.2.2) H := by rw [eb_6]; exact hP
      have hf := lt_eq eb_6 hf
      refine lv_iload_n hx hb dX11_setS_32 rfl (lv_at hl 0 rfl) ?_
      exact e_yi C0 (hf.symm.trans hFe) hP hS rfl rfl dX11_setS_33
  refine lv_iload_n hx hb dX11_setS_0 rfl (lv_at hl 1 rfl) ?_
  refine lv_if_lt (tgt := 8) hx hb dX11_setS_1 (by decide) (fun c1 => ?_) (fun c1 => ?_)
  · have hf := it_eq c1 hf
    have hok := it_ok c1 hok
    refine lv_iconst (v := 0) hx hb dX11_setS_8 (by decide) ?_
    exact J_9 a1 false b s9 u kk _ _ hP hS _ (lv_sub hl [0, 1] rfl) hf hok
  · have hf := ie_eq c1 hf
    have hok := ie_ok c1 hok
    refine lv_iconst (v := 1) hx hb dX11_setS_4 (by decide) ?_
    refine lv_goto (tgt := 9) hx hb dX11_setS_5 (by decide) ?_
    exact J_9 a1 true b s9 u kk _ _ hP hS _ (lv_sub hl [0, 1] rfl) hf hok
