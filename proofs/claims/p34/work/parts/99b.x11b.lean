theorem gpw_4 (P A B C D A' B' C' D' : va_W) (i : List Nat) (hi : i = List.range' P.length (A ++ B ++ C ++ D).length) (h : (A ++ B ++ C ++ D).length = (A' ++ B' ++ C' ++ D').length) : gpatch (P ++ A ++ B ++ C ++ D) i (A' ++ B' ++ C' ++ D') = P ++ A' ++ B' ++ C' ++ D' := by
  have r := gpw_1_0 P (A ++ B ++ C ++ D) (A' ++ B' ++ C' ++ D') i hi h
  have e1 : P ++ A ++ B ++ C ++ D = P ++ (A ++ B ++ C ++ D) := by simp only [List.append_assoc]
  have e2 : P ++ A' ++ B' ++ C' ++ D' = P ++ (A' ++ B' ++ C' ++ D') := by simp only [List.append_assoc]
  rw [e1, e2]
  exact r
abbrev rX11_click : Room := { frames := 7, cells := 4, slots := 24, locals := 153 }
set_option maxHeartbeats 4000000 in
set_option maxRecDepth 100000 in
theorem mX11_click (l : Launch) (hfl : l.stackTraces = false) (dC : Nat → ClassId) (dI : Nat → Nat → Nat) (cI cB cO cL : ClassId) (N0 : Nat) (sT eA : Nat → Nat) (qe : Nat → Nat) (qb : Nat → Nat) (qs : Nat → Nat) (qu : Nat → Nat) (qk : Nat → Nat) (qr : Nat → Nat) (qx : Nat → Nat) (qd : Nat → Nat) (te : TS) (b : BS) (s9 : SS) (u : US) (kk : Int32) (a1 : Int32) (a2 : Int32) (a3 : Int32) (sz : Nat) (hsz : N0 ≤ sz) (hI : gD (fun _ => True) (eAd qe ++ bAd qb ++ sAd qs ++ uAd qu ++ kAd qk)) (hN9 : ∀ a ∈ (eAd qe ++ bAd qb ++ sAd qs ++ uAd qu ++ kAd qk : List Nat), N0 ≤ a) (hok : kX11_click te b s9 u kk a1 a2 a3) : vx_Met l yX11_click wsX11_click rX11_click (zP N0 sz sT eA (dC, dI) (tYS cI cB cO cL) (ew qe cI te ++ bw qb cI b ++ sw qs cI s9 ++ uw qu cI cB u ++ kw qk qb qr qe qs qu qx qd cI kk) [.ref (qk 0), .int a1, .int a2, .int a3]) (yQi (dC, dI) (fun z9 : TS × BS × SS × US × Int32 => ew qe cI z9.1 ++ bw qb cI z9.2.1 ++ sw qs cI z9.2.2.1 ++ uw qu cI cB z9.2.2.2.1 ++ kw qk qb qr qe qs qu qx qd cI z9.2.2.2.2) (va_A (ew qe cI te ++ bw qb cI b ++ sw qs cI s9 ++ uw qu cI cB u ++ kw qk qb qr qe qs qu qx qd cI kk) sz) (pX11_click te b s9 u kk a1 a2 a3)) (yX (dC, dI) (fun z9 : TS × BS × SS × US × Int32 => ew qe cI z9.1 ++ bw qb cI z9.2.1 ++ sw qs cI z9.2.2.1 ++ uw qu cI cB z9.2.2.2.1 ++ kw qk qb qr qe qs qu qx qd cI z9.2.2.2.2) (va_A (ew qe cI te ++ bw qb cI b ++ sw qs cI s9 ++ uw qu cI cB u ++ kw qk qb qr qe qs qu qx qd cI kk) sz) (pX11_click te b s9 u kk a1 a2 a3)) 4 24 (va_A (ew qe cI te ++ bw qb cI b ++ sw qs cI s9 ++ uw qu cI cB u ++ kw qk qb qr qe qs qu qx qd cI kk) sz) := by
  refine zMet (cc := cX11_click) (maxL := 4) (ret := some .int) [(0, .ref (qk 0)), (1, .int a1), (2, .int a2), (3, .int a3)] (by decide) rfl rfl rfl ?_
  intro p e s mi below meth c C0 htab hz hK hF hP ls hl
  obtain ⟨hx, hb, hr, hml, hown, hts, hlocks⟩ := id C0
  have hown : s.vm.findClass RX11 = some mi.cls := hown
  have hE := hF.1
  subst hz
  have hA0 : ∀ q : Nat, s.heap.size ≤ q → (va_A (ew qe cI te ++ bw qb cI b ++ sw qs cI s9 ++ uw qu cI cB u ++ kw qk qb qr qe qs qu qx qd cI kk) s.heap.size) q := fun q h => Or.inr h
  have hN : ∀ q : Nat, (va_A (ew qe cI te ++ bw qb cI b ++ sw qs cI s9 ++ uw qu cI cB u ++ kw qk qb qr qe qs qu qx qd cI kk) s.heap.size) q → N0 ≤ q := vA_N (ws := ew qe cI te ++ bw qb cI b ++ sw qs cI s9 ++ uw qu cI cB u ++ kw qk qb qr qe qs qu qx qd cI kk) hN9 hsz
  have hH := hF.2.2.narrow hN
  have hS : va_S (va_A (ew qe cI te ++ bw qb cI b ++ sw qs cI s9 ++ uw qu cI cB u ++ kw qk qb qr qe qs qu qx qd cI kk) s.heap.size) s.heap s.heap [] := va_S.rf
  have hD : gD (va_A (ew qe cI te ++ bw qb cI b ++ sw qs cI s9 ++ uw qu cI cB u ++ kw qk qb qr qe qs qu qx qd cI kk) s.heap.size) (eAd qe ++ bAd qb ++ sAd qs ++ uAd qu ++ kAd qk) := gD_vA (ws := ew qe cI te ++ bw qb cI b ++ sw qs cI s9 ++ uw qu cI cB u ++ kw qk qb qr qe qs qu qx qd cI kk) hI
  have hP : va_P (dC, dI) vwCl (ew qe cI te ++ bw qb cI b ++ sw qs cI s9 ++ uw qu cI cB u ++ kw qk qb qr qe qs qu qx qd cI kk) s.heap := hP
  obtain ⟨F, hFe⟩ : ∃ F, F = pX11_click te b s9 u kk a1 a2 a3 := ⟨_, rfl⟩
  have hf := hFe
  have hin11 : ∀ w ∈ u_ws RX11 TX11 8, w ∈ wsX11_click := by decide +kernel
  have fl10 := hts (.fieldLink RX11 10 "ClickBench" "bench" "LClickBench$Bench;") (by decide +kernel)
  have fl26 := hts (.fieldLink RX11 26 "ClickBench" "ear" "LClickBench$Ear;") (by decide +kernel)
  refine lv_aload_n hx hb dX11_click_0 rfl (lv_at hl 0 rfl) ?_
  refine va_get (D := (dC, dI)) (ci := 8) (v := .ref (qb 0)) (C := RX11) (T := TX11) (N := 8) hx hb hts hin11 hown hK hP 56 rfl rfl 0 (by decide) fl10 (fun _ h9 => h9) rfl dX11_click_1 ?_
  refine lv_iload_n hx hb dX11_click_4 rfl (lv_at hl 1 rfl) ?_
  refine lv_iload_n hx hb dX11_click_5 rfl (lv_at hl 2 rfl) ?_
  refine lv_iload_n hx hb dX11_click_6 rfl (lv_at hl 3 rfl) ?_
  have hPc := hP.sub (ws' := bw qb cI b) [4, 5, 6, 7, 8, 9, 10, 11, 12] rfl
  refine gro_i (va_runV (As := [.int a1, .int a2, .int a3]) (rest := []) ⟨hx, hb, hml, hown, hts⟩ (mX2_refusalOfClick l dC dI cI cB cO cL qb b a1 a2 a3  ) (cwV 3 hts gX11_click_X2_refusalOfClick rfl rfl rfl (by decide +kernel) ⟨Nat.le_of_ble_eq_true rfl, Nat.le_of_ble_eq_true rfl⟩) ⟨cP_blind, va_recv hK hPc (ci := 1) (q0 := 0) rfl rfl, cP_ok hPc hK hE⟩ rfl rfl hl.1 rfl (lv_room (Nat.le_of_ble_eq_true rfl)) dX11_click_7 ⟨Nat.le_of_ble_eq_true rfl, Nat.le_of_ble_eq_true rfl⟩) ?_
  refine x_callS (vx_runS (As := [.int (pX2_refusalOfClick b a1 a2 a3)]) (rest := []) ⟨hx, hb, hml, hown, hts⟩ (mX11_refuse l hfl dC dI cI cB cO cL N0 sT eA s.heap.size (Nat.le_trans hsz hS.1) (pX2_refusalOfClick b a1 a2 a3)) (va_cwS 1 hts gX11_click_X11_refuse rfl rfl rfl (by decide +kernel) ⟨Nat.le_of_ble_eq_true rfl, Nat.le_of_ble_eq_true rfl⟩) ⟨zP_blind, zP_ok va_P_nil hK hF hS hN⟩ rfl rfl hl.1 rfl (lv_room (Nat.le_of_ble_eq_true rfl)) dX11_click_10 ⟨Nat.le_of_ble_eq_true rfl, Nat.le_of_ble_eq_true rfl⟩) hP hS hA0 (fun hne q9 ce H locs hP hS hce hcv hcl => ?_) (fun h0 H locs hP hS => ?_)
  · exact x_out htab hlocks hne ((xb_1 hne hf).symm.trans hFe) hP hS hce hcv hcl rfl rfl
  · have hf := xb_0 h0 hf
    have hok := xk_0 h0 hok
    refine lv_aload_n hx hb dX11_click_13 rfl (lv_at hl 0 rfl) ?_
    obtain ⟨h1, hok⟩ := hok
    have hPc := hP.sub (ws' := bw qb cI b ++ sw qs cI s9 ++ uw qu cI cB u ++ kw qk qb qr qe qs qu qx qd cI kk) [4, 5, 6, 7, 8, 9, 10, 11, 12, 13, 14, 15, 16, 17, 18, 19, 20, 21, 22, 23, 24, 25, 26, 27, 28, 29, 30, 31, 32, 33, 34, 35, 36, 37, 38, 39, 40, 41, 42, 43, 44, 45, 46, 47, 48, 49, 50, 51, 52, 53, 54, 55, 56] rfl
    refine gmu_v (va_runV (As := []) (rest := []) ⟨hx, hb, hml, hown, hts⟩ (mX11_saveState l dC dI cI cB cO cL qb qs qu qk qr qe qx qd b s9 u kk (gD_subT hD [4, 5, 6, 7, 8, 9, 10, 11, 12, 13, 14, 15, 16, 17, 18, 19, 20, 21, 22, 23, 24, 25, 26, 27, 28, 29, 30, 31, 32, 33, 34, 35, 36, 37, 38, 39, 40, 41, 42, 43, 44, 45, 46, 47, 48, 49, 50, 51, 52, 53, 54, 55, 56] rfl rfl) h1) (cwV 0 hts gX11_click_X11_saveState rfl rfl rfl (by decide +kernel) ⟨Nat.le_of_ble_eq_true rfl, Nat.le_of_ble_eq_true rfl⟩) ⟨cP_blind, va_recv hK hPc (ci := 8) (q0 := 52) rfl rfl, cP_ok hPc hK hE⟩ rfl rfl hl.1 rfl (lv_room (Nat.le_of_ble_eq_true rfl)) dX11_click_14 ⟨Nat.le_of_ble_eq_true rfl, Nat.le_of_ble_eq_true rfl⟩) hP (gD_va hD rfl) hS [4, 5, 6, 7, 8, 9, 10, 11, 12, 13, 14, 15, 16, 17, 18, 19, 20, 21, 22, 23, 24, 25, 26, 27, 28, 29, 30, 31, 32, 33, 34, 35, 36, 37, 38, 39, 40, 41, 42, 43, 44, 45, 46, 47, 48, 49, 50, 51, 52, 53, 54, 55, 56] rfl (fun _ => rfl) (fun u3 H locs hw hP hS => ?_)
    have hP : va_P (dC, dI) vwCl (ew qe cI te ++ bw qb cI u3.1 ++ sw qs cI u3.2.1 ++ uw qu cI cB u3.2.2.1 ++ kw qk qb qr qe qs qu qx qd cI u3.2.2.2) H := by
      have e09 : gpatch (ew qe cI te ++ bw qb cI b ++ sw qs cI s9 ++ uw qu cI cB u ++ kw qk qb qr qe qs qu qx qd cI kk) [4, 5, 6, 7, 8, 9, 10, 11, 12, 13, 14, 15, 16, 17, 18, 19, 20, 21, 22, 23, 24, 25, 26, 27, 28, 29, 30, 31, 32, 33, 34, 35, 36, 37, 38, 39, 40, 41, 42, 43, 44, 45, 46, 47, 48, 49, 50, 51, 52, 53, 54, 55, 56] (bw qb cI u3.1 ++ sw qs cI u3.2.1 ++ uw qu cI cB u3.2.2.1 ++ kw qk qb qr qe qs qu qx qd cI u3.2.2.2) = ew qe cI te ++ bw qb cI u3.1 ++ sw qs cI u3.2.1 ++ uw qu cI cB u3.2.2.1 ++ kw qk qb qr qe qs qu qx qd cI u3.2.2.2 := gpw_4 (ew qe cI te) (bw qb cI b) (sw qs cI s9) (uw qu cI cB u) (kw qk qb qr qe qs qu qx qd cI kk) (bw qb cI u3.1) (sw qs cI u3.2.1) (uw qu cI cB u3.2.2.1) (kw qk qb qr qe qs qu qx qd cI u3.2.2.2) [4, 5, 6, 7, 8, 9, 10, 11, 12, 13, 14, 15, 16, 17, 18, 19, 20, 21, 22, 23, 24, 25, 26, 27, 28, 29, 30, 31, 32, 33, 34, 35, 36, 37, 38, 39, 40, 41, 42, 43, 44, 45, 46, 47, 48, 49, 50, 51, 52, 53, 54, 55, 56] rfl rfl
      exact (congrArg (fun z9 => va_P (dC, dI) vwCl z9 H) e09).mp hP
    have hf := lt_eq hw hf
    have hok := lt_ok hw hok
    refine lv_aload_n hx hb dX11_click_17 rfl (lv_at hl 0 rfl) ?_
    refine va_get (D := (dC, dI)) (ci := 8) (v := .ref (qe 0)) (C := RX11) (T := TX11) (N := 8) hx hb hts hin11 hown hK hP 56 rfl rfl 2 (by decide) fl26 (fun _ h9 => h9) rfl dX11_click_18 ?_
    refine lv_aload_n hx hb dX11_click_21 rfl (lv_at hl 0 rfl) ?_
    refine va_get (D := (dC, dI)) (ci := 8) (v := .ref (qb 0)) (C := RX11) (T := TX11) (N := 8) hx hb hts hin11 hown hK hP 56 rfl rfl 0 (by decide) fl10 (fun _ h9 => h9) rfl dX11_click_22 ?_
    refine lv_iload_n hx hb dX11_click_25 rfl (lv_at hl 1 rfl) ?_
    refine lv_iload_n hx hb dX11_click_26 rfl (lv_at hl 2 rfl) ?_
    refine lv_iload_n hx hb dX11_click_27 rfl (lv_at hl 3 rfl) ?_
    have h4 : kX6_hearClick te u3.1 a1 a2 a3 := hok
    have hPc := hP.sub (ws' := ew qe cI te ++ bw qb cI u3.1) [0, 1, 2, 3, 4, 5, 6, 7, 8, 9, 10, 11, 12] rfl
    refine gmu_i (va_runV (As := [.ref (qb 0), .int a1, .int a2, .int a3]) (rest := []) ⟨hx, hb, hml, hown, hts⟩ (mX6_hearClick l dC dI cI cB cO cL qe qb te u3.1 a1 a2 a3 (gD_subT hD [0, 1, 2, 3, 4, 5, 6, 7, 8, 9, 10, 11, 12] rfl rfl) h4) (cwV 4 hts gX11_click_X6_hearClick rfl rfl rfl (by decide +kernel) ⟨Nat.le_of_ble_eq_true rfl, Nat.le_of_ble_eq_true rfl⟩) ⟨cP_blind, va_recv hK hPc (ci := 4) (q0 := 0) rfl rfl, cP_ok hPc hK hE⟩ rfl rfl hl.1 rfl (lv_room (Nat.le_of_ble_eq_true rfl)) dX11_click_28 ⟨Nat.le_of_ble_eq_true rfl, Nat.le_of_ble_eq_true rfl⟩) hP (gD_va hD rfl) hS [0, 1, 2, 3, 4, 5, 6, 7, 8, 9, 10, 11, 12] rfl (fun _ => rfl) (fun r5 u6 H locs hw hP hS => ?_)
    have hP : va_P (dC, dI) vwCl (ew qe cI u6.1 ++ bw qb cI u6.2 ++ sw qs cI u3.2.1 ++ uw qu cI cB u3.2.2.1 ++ kw qk qb qr qe qs qu qx qd cI u3.2.2.2) H := by
      have e09 : gpatch (ew qe cI te ++ bw qb cI u3.1 ++ sw qs cI u3.2.1 ++ uw qu cI cB u3.2.2.1 ++ kw qk qb qr qe qs qu qx qd cI u3.2.2.2) [0, 1, 2, 3] (ew qe cI u6.1) = ew qe cI u6.1 ++ bw qb cI u3.1 ++ sw qs cI u3.2.1 ++ uw qu cI cB u3.2.2.1 ++ kw qk qb qr qe qs qu qx qd cI u3.2.2.2 := gpw_0_4 (ew qe cI te) (ew qe cI u6.1) (bw qb cI u3.1) (sw qs cI u3.2.1) (uw qu cI cB u3.2.2.1) (kw qk qb qr qe qs qu qx qd cI u3.2.2.2) [0, 1, 2, 3] rfl rfl
      have e19 : gpatch (ew qe cI u6.1 ++ bw qb cI u3.1 ++ sw qs cI u3.2.1 ++ uw qu cI cB u3.2.2.1 ++ kw qk qb qr qe qs qu qx qd cI u3.2.2.2) [4, 5, 6, 7, 8, 9, 10, 11, 12] (bw qb cI u6.2) = ew qe cI u6.1 ++ bw qb cI u6.2 ++ sw qs cI u3.2.1 ++ uw qu cI cB u3.2.2.1 ++ kw qk qb qr qe qs qu qx qd cI u3.2.2.2 := gpw_1_3 (ew qe cI u6.1) (bw qb cI u3.1) (bw qb cI u6.2) (sw qs cI u3.2.1) (uw qu cI cB u3.2.2.1) (kw qk qb qr qe qs qu qx qd cI u3.2.2.2) [4, 5, 6, 7, 8, 9, 10, 11, 12] rfl rfl
      have ea9 : gpatch (ew qe cI te ++ bw qb cI u3.1 ++ sw qs cI u3.2.1 ++ uw qu cI cB u3.2.2.1 ++ kw qk qb qr qe qs qu qx qd cI u3.2.2.2) [0, 1, 2, 3, 4, 5, 6, 7, 8, 9, 10, 11, 12] (ew qe cI u6.1 ++ bw qb cI u6.2) = gpatch (gpatch (ew qe cI te ++ bw qb cI u3.1 ++ sw qs cI u3.2.1 ++ uw qu cI cB u3.2.2.1 ++ kw qk qb qr qe qs qu qx qd cI u3.2.2.2) [0, 1, 2, 3] (ew qe cI u6.1)) [4, 5, 6, 7, 8, 9, 10, 11, 12] (bw qb cI u6.2) := gpatch_app [0, 1, 2, 3] [4, 5, 6, 7, 8, 9, 10, 11, 12] (ew qe cI u6.1) (bw qb cI u6.2) (ew qe cI te ++ bw qb cI u3.1 ++ sw qs cI u3.2.1 ++ uw qu cI cB u3.2.2.1 ++ kw qk qb qr qe qs qu qx qd cI u3.2.2.2) rfl
      exact (congrArg (fun z9 => va_P (dC, dI) vwCl z9 H) (ea9.trans ((congrArg (fun z9 => gpatch z9 [4, 5, 6, 7, 8, 9, 10, 11, 12] (bw qb cI u6.2)) e09).trans e19))).mp hP
    have hf := bd_eq hw hf
    exact e_yi C0 (hf.symm.trans hFe) hP hS rfl rfl dX11_click_31
abbrev rX11_calibrate : Room := { frames := 7, cells := 4, slots := 24, locals := 156 }
set_option maxHeartbeats 4000000 in
set_option maxRecDepth 100000 in
theorem mX11_calibrate (l : Launch) (hfl : l.stackTraces = false) (dC : Nat → ClassId) (dI : Nat → Nat → Nat) (cI cB cO cL : ClassId) (N0 : Nat) (sT eA : Nat → Nat) (qe : Nat → Nat) (qb : Nat → Nat) (qs : Nat → Nat) (qu : Nat → Nat) (qk : Nat → Nat) (qr : Nat → Nat) (qx : Nat → Nat) (qd : Nat → Nat) (te : TS) (b : BS) (s9 : SS) (u : US) (kk : Int32) (a1 : Int32) (a2 : Int32) (a3 : Int32) (sz : Nat) (hsz : N0 ≤ sz) (hI : gD (fun _ => True) (eAd qe ++ bAd qb ++ sAd qs ++ uAd qu ++ kAd qk)) (hN9 : ∀ a ∈ (eAd qe ++ bAd qb ++ sAd qs ++ uAd qu ++ kAd qk : List Nat), N0 ≤ a) (hok : kX11_calibrate te b s9 u kk a1 a2 a3) : vx_Met l yX11_calibrate wsX11_calibrate rX11_calibrate (zP N0 sz sT eA (dC, dI) (tYS cI cB cO cL) (ew qe cI te ++ bw qb cI b ++ sw qs cI s9 ++ uw qu cI cB u ++ kw qk qb qr qe qs qu qx qd cI kk) [.ref (qk 0), .int a1, .int a2, .int a3]) (yQi (dC, dI) (fun z9 : TS × BS × SS × US × Int32 => ew qe cI z9.1 ++ bw qb cI z9.2.1 ++ sw qs cI z9.2.2.1 ++ uw qu cI cB z9.2.2.2.1 ++ kw qk qb qr qe qs qu qx qd cI z9.2.2.2.2) (va_A (ew qe cI te ++ bw qb cI b ++ sw qs cI s9 ++ uw qu cI cB u ++ kw qk qb qr qe qs qu qx qd cI kk) sz) (pX11_calibrate te b s9 u kk a1 a2 a3)) (yX (dC, dI) (fun z9 : TS × BS × SS × US × Int32 => ew qe cI z9.1 ++ bw qb cI z9.2.1 ++ sw qs cI z9.2.2.1 ++ uw qu cI cB z9.2.2.2.1 ++ kw qk qb qr qe qs qu qx qd cI z9.2.2.2.2) (va_A (ew qe cI te ++ bw qb cI b ++ sw qs cI s9 ++ uw qu cI cB u ++ kw qk qb qr qe qs qu qx qd cI kk) sz) (pX11_calibrate te b s9 u kk a1 a2 a3)) 4 24 (va_A (ew qe cI te ++ bw qb cI b ++ sw qs cI s9 ++ uw qu cI cB u ++ kw qk qb qr qe qs qu qx qd cI kk) sz) := by
  refine zMet (cc := cX11_calibrate) (maxL := 4) (ret := some .int) [(0, .ref (qk 0)), (1, .int a1), (2, .int a2), (3, .int a3)] (by decide) rfl rfl rfl ?_
  intro p e s mi below meth c C0 htab hz hK hF hP ls hl
  obtain ⟨hx, hb, hr, hml, hown, hts, hlocks⟩ := id C0
  have hown : s.vm.findClass RX11 = some mi.cls := hown
  have hE := hF.1
  subst hz
  have hA0 : ∀ q : Nat, s.heap.size ≤ q → (va_A (ew qe cI te ++ bw qb cI b ++ sw qs cI s9 ++ uw qu cI cB u ++ kw qk qb qr qe qs qu qx qd cI kk) s.heap.size) q := fun q h => Or.inr h
  have hN : ∀ q : Nat, (va_A (ew qe cI te ++ bw qb cI b ++ sw qs cI s9 ++ uw qu cI cB u ++ kw qk qb qr qe qs qu qx qd cI kk) s.heap.size) q → N0 ≤ q := vA_N (ws := ew qe cI te ++ bw qb cI b ++ sw qs cI s9 ++ uw qu cI cB u ++ kw qk qb qr qe qs qu qx qd cI kk) hN9 hsz
  have hH := hF.2.2.narrow hN
  have hS : va_S (va_A (ew qe cI te ++ bw qb cI b ++ sw qs cI s9 ++ uw qu cI cB u ++ kw qk qb qr qe qs qu qx qd cI kk) s.heap.size) s.heap s.heap [] := va_S.rf
  have hD : gD (va_A (ew qe cI te ++ bw qb cI b ++ sw qs cI s9 ++ uw qu cI cB u ++ kw qk qb qr qe qs qu qx qd cI kk) s.heap.size) (eAd qe ++ bAd qb ++ sAd qs ++ uAd qu ++ kAd qk) := gD_vA (ws := ew qe cI te ++ bw qb cI b ++ sw qs cI s9 ++ uw qu cI cB u ++ kw qk qb qr qe qs qu qx qd cI kk) hI
  have hP : va_P (dC, dI) vwCl (ew qe cI te ++ bw qb cI b ++ sw qs cI s9 ++ uw qu cI cB u ++ kw qk qb qr qe qs qu qx qd cI kk) s.heap := hP
  obtain ⟨F, hFe⟩ : ∃ F, F = pX11_calibrate te b s9 u kk a1 a2 a3 := ⟨_, rfl⟩
  have hf := hFe
  have hin11 : ∀ w ∈ u_ws RX11 TX11 8, w ∈ wsX11_calibrate := by decide +kernel
  have fl10 := hts (.fieldLink RX11 10 "ClickBench" "bench" "LClickBench$Bench;") (by decide +kernel)
  have fl26 := hts (.fieldLink RX11 26 "ClickBench" "ear" "LClickBench$Ear;") (by decide +kernel)
  refine lv_aload_n hx hb dX11_calibrate_0 rfl (lv_at hl 0 rfl) ?_
  refine va_get (D := (dC, dI)) (ci := 8) (v := .ref (qb 0)) (C := RX11) (T := TX11) (N := 8) hx hb hts hin11 hown hK hP 56 rfl rfl 0 (by decide) fl10 (fun _ h9 => h9) rfl dX11_calibrate_1 ?_
  refine lv_iload_n hx hb dX11_calibrate_4 rfl (lv_at hl 1 rfl) ?_
  refine lv_iload_n hx hb dX11_calibrate_5 rfl (lv_at hl 2 rfl) ?_
  refine lv_iload_n hx hb dX11_calibrate_6 rfl (lv_at hl 3 rfl) ?_
  have hPc := hP.sub (ws' := bw qb cI b) [4, 5, 6, 7, 8, 9, 10, 11, 12] rfl
  refine gro_i (va_runV (As := [.int a1, .int a2, .int a3]) (rest := []) ⟨hx, hb, hml, hown, hts⟩ (mX2_refusalOfClick l dC dI cI cB cO cL qb b a1 a2 a3  ) (cwV 3 hts gX11_calibrate_X2_refusalOfClick rfl rfl rfl (by decide +kernel) ⟨Nat.le_of_ble_eq_true rfl, Nat.le_of_ble_eq_true rfl⟩) ⟨cP_blind, va_recv hK hPc (ci := 1) (q0 := 0) rfl rfl, cP_ok hPc hK hE⟩ rfl rfl hl.1 rfl (lv_room (Nat.le_of_ble_eq_true rfl)) dX11_calibrate_7 ⟨Nat.le_of_ble_eq_true rfl, Nat.le_of_ble_eq_true rfl⟩) ?_
  refine x_callS (vx_runS (As := [.int (pX2_refusalOfClick b a1 a2 a3)]) (rest := []) ⟨hx, hb, hml, hown, hts⟩ (mX11_refuse l hfl dC dI cI cB cO cL N0 sT eA s.heap.size (Nat.le_trans hsz hS.1) (pX2_refusalOfClick b a1 a2 a3)) (va_cwS 1 hts gX11_calibrate_X11_refuse rfl rfl rfl (by decide +kernel) ⟨Nat.le_of_ble_eq_true rfl, Nat.le_of_ble_eq_true rfl⟩) ⟨zP_blind, zP_ok va_P_nil hK hF hS hN⟩ rfl rfl hl.1 rfl (lv_room (Nat.le_of_ble_eq_true rfl)) dX11_calibrate_10 ⟨Nat.le_of_ble_eq_true rfl, Nat.le_of_ble_eq_true rfl⟩) hP hS hA0 (fun hne q9 ce H locs hP hS hce hcv hcl => ?_) (fun h0 H locs hP hS => ?_)
  · exact x_out htab hlocks hne ((xb_1 hne hf).symm.trans hFe) hP hS hce hcv hcl rfl rfl
  · have hf := xb_0 h0 hf
    have hok := xk_0 h0 hok
    refine lv_aload_n hx hb dX11_calibrate_13 rfl (lv_at hl 0 rfl) ?_
    obtain ⟨h1, hok⟩ := hok
    have hPc := hP.sub (ws' := bw qb cI b ++ sw qs cI s9 ++ uw qu cI cB u ++ kw qk qb qr qe qs qu qx qd cI kk) [4, 5, 6, 7, 8, 9, 10, 11, 12, 13, 14, 15, 16, 17, 18, 19, 20, 21, 22, 23, 24, 25, 26, 27, 28, 29, 30, 31, 32, 33, 34, 35, 36, 37, 38, 39, 40, 41, 42, 43, 44, 45, 46, 47, 48, 49, 50, 51, 52, 53, 54, 55, 56] rfl
    refine gmu_v (va_runV (As := []) (rest := []) ⟨hx, hb, hml, hown, hts⟩ (mX11_saveState l dC dI cI cB cO cL qb qs qu qk qr qe qx qd b s9 u kk (gD_subT hD [4, 5, 6, 7, 8, 9, 10, 11, 12, 13, 14, 15, 16, 17, 18, 19, 20, 21, 22, 23, 24, 25, 26, 27, 28, 29, 30, 31, 32, 33, 34, 35, 36, 37, 38, 39, 40, 41, 42, 43, 44, 45, 46, 47, 48, 49, 50, 51, 52, 53, 54, 55, 56] rfl rfl) h1) (cwV 0 hts gX11_calibrate_X11_saveState rfl rfl rfl (by decide +kernel) ⟨Nat.le_of_ble_eq_true rfl, Nat.le_of_ble_eq_true rfl⟩) ⟨cP_blind, va_recv hK hPc (ci := 8) (q0 := 52) rfl rfl, cP_ok hPc hK hE⟩ rfl rfl hl.1 rfl (lv_room (Nat.le_of_ble_eq_true rfl)) dX11_calibrate_14 ⟨Nat.le_of_ble_eq_true rfl, Nat.le_of_ble_eq_true rfl⟩) hP (gD_va hD rfl) hS [4, 5, 6, 7, 8, 9, 10, 11, 12, 13, 14, 15, 16, 17, 18, 19, 20, 21, 22, 23, 24, 25, 26, 27, 28, 29, 30, 31, 32, 33, 34, 35, 36, 37, 38, 39, 40, 41, 42, 43, 44, 45, 46, 47, 48, 49, 50, 51, 52, 53, 54, 55, 56] rfl (fun _ => rfl) (fun u3 H locs hw hP hS => ?_)
    have hP : va_P (dC, dI) vwCl (ew qe cI te ++ bw qb cI u3.1 ++ sw qs cI u3.2.1 ++ uw qu cI cB u3.2.2.1 ++ kw qk qb qr qe qs qu qx qd cI u3.2.2.2) H := by
      have e09 : gpatch (ew qe cI te ++ bw qb cI b ++ sw qs cI s9 ++ uw qu cI cB u ++ kw qk qb qr qe qs qu qx qd cI kk) [4, 5, 6, 7, 8, 9, 10, 11, 12, 13, 14, 15, 16, 17, 18, 19, 20, 21, 22, 23, 24, 25, 26, 27, 28, 29, 30, 31, 32, 33, 34, 35, 36, 37, 38, 39, 40, 41, 42, 43, 44, 45, 46, 47, 48, 49, 50, 51, 52, 53, 54, 55, 56] (bw qb cI u3.1 ++ sw qs cI u3.2.1 ++ uw qu cI cB u3.2.2.1 ++ kw qk qb qr qe qs qu qx qd cI u3.2.2.2) = ew qe cI te ++ bw qb cI u3.1 ++ sw qs cI u3.2.1 ++ uw qu cI cB u3.2.2.1 ++ kw qk qb qr qe qs qu qx qd cI u3.2.2.2 := gpw_4 (ew qe cI te) (bw qb cI b) (sw qs cI s9) (uw qu cI cB u) (kw qk qb qr qe qs qu qx qd cI kk) (bw qb cI u3.1) (sw qs cI u3.2.1) (uw qu cI cB u3.2.2.1) (kw qk qb qr qe qs qu qx qd cI u3.2.2.2) [4, 5, 6, 7, 8, 9, 10, 11, 12, 13, 14, 15, 16, 17, 18, 19, 20, 21, 22, 23, 24, 25, 26, 27, 28, 29, 30, 31, 32, 33, 34, 35, 36, 37, 38, 39, 40, 41, 42, 43, 44, 45, 46, 47, 48, 49, 50, 51, 52, 53, 54, 55, 56] rfl rfl
      exact (congrArg (fun z9 => va_P (dC, dI) vwCl z9 H) e09).mp hP
    have hf := lt_eq hw hf
    have hok := lt_ok hw hok
    refine lv_aload_n hx hb dX11_calibrate_17 rfl (lv_at hl 0 rfl) ?_
    refine va_get (D := (dC, dI)) (ci := 8) (v := .ref (qe 0)) (C := RX11) (T := TX11) (N := 8) hx hb hts hin11 hown hK hP 56 rfl rfl 2 (by decide) fl26 (fun _ h9 => h9) rfl dX11_calibrate_18 ?_
    refine lv_aload_n hx hb dX11_calibrate_21 rfl (lv_at hl 0 rfl) ?_
    refine va_get (D := (dC, dI)) (ci := 8) (v := .ref (qb 0)) (C := RX11) (T := TX11) (N := 8) hx hb hts hin11 hown hK hP 56 rfl rfl 0 (by decide) fl10 (fun _ h9 => h9) rfl dX11_calibrate_22 ?_
    refine lv_iload_n hx hb dX11_calibrate_25 rfl (lv_at hl 1 rfl) ?_
    refine lv_iload_n hx hb dX11_calibrate_26 rfl (lv_at hl 2 rfl) ?_
    refine lv_iload_n hx hb dX11_calibrate_27 rfl (lv_at hl 3 rfl) ?_
    have h4 : kX6_hearKnownClick te u3.1 a1 a2 a3 := hok
    have hPc := hP.sub (ws' := ew qe cI te ++ bw qb cI u3.1) [0, 1, 2, 3, 4, 5, 6, 7, 8, 9, 10, 11, 12] rfl
    refine gmu_i (va_runV (As := [.ref (qb 0), .int a1, .int a2, .int a3]) (rest := []) ⟨hx, hb, hml, hown, hts⟩ (mX6_hearKnownClick l dC dI cI cB cO cL qe qb te u3.1 a1 a2 a3 (gD_subT hD [0, 1, 2, 3, 4, 5, 6, 7, 8, 9, 10, 11, 12] rfl rfl) h4) (cwV 4 hts gX11_calibrate_X6_hearKnownClick rfl rfl rfl (by decide +kernel) ⟨Nat.le_of_ble_eq_true rfl, Nat.le_of_ble_eq_true rfl⟩) ⟨cP_blind, va_recv hK hPc (ci := 4) (q0 := 0) rfl rfl, cP_ok hPc hK hE⟩ rfl rfl hl.1 rfl (lv_room (Nat.le_of_ble_eq_true rfl)) dX11_calibrate_28 ⟨Nat.le_of_ble_eq_true rfl, Nat.le_of_ble_eq_true rfl⟩) hP (gD_va hD rfl) hS [0, 1, 2, 3, 4, 5, 6, 7, 8, 9, 10, 11, 12] rfl (fun _ => rfl) (fun r5 u6 H locs hw hP hS => ?_)
    have hP : va_P (dC, dI) vwCl (ew qe cI u6.1 ++ bw qb cI u6.2 ++ sw qs cI u3.2.1 ++ uw qu cI cB u3.2.2.1 ++ kw qk qb qr qe qs qu qx qd cI u3.2.2.2) H := by
      have e09 : gpatch (ew qe cI te ++ bw qb cI u3.1 ++ sw qs cI u3.2.1 ++ uw qu cI cB u3.2.2.1 ++ kw qk qb qr qe qs qu qx qd cI u3.2.2.2) [0, 1, 2, 3] (ew qe cI u6.1) = ew qe cI u6.1 ++ bw qb cI u3.1 ++ sw qs cI u3.2.1 ++ uw qu cI cB u3.2.2.1 ++ kw qk qb qr qe qs qu qx qd cI u3.2.2.2 := gpw_0_4 (ew qe cI te) (ew qe cI u6.1) (bw qb cI u3.1) (sw qs cI u3.2.1) (uw qu cI cB u3.2.2.1) (kw qk qb qr qe qs qu qx qd cI u3.2.2.2) [0, 1, 2, 3] rfl rfl
      have e19 : gpatch (ew qe cI u6.1 ++ bw qb cI u3.1 ++ sw qs cI u3.2.1 ++ uw qu cI cB u3.2.2.1 ++ kw qk qb qr qe qs qu qx qd cI u3.2.2.2) [4, 5, 6, 7, 8, 9, 10, 11, 12] (bw qb cI u6.2) = ew qe cI u6.1 ++ bw qb cI u6.2 ++ sw qs cI u3.2.1 ++ uw qu cI cB u3.2.2.1 ++ kw qk qb qr qe qs qu qx qd cI u3.2.2.2 := gpw_1_3 (ew qe cI u6.1) (bw qb cI u3.1) (bw qb cI u6.2) (sw qs cI u3.2.1) (uw qu cI cB u3.2.2.1) (kw qk qb qr qe qs qu qx qd cI u3.2.2.2) [4, 5, 6, 7, 8, 9, 10, 11, 12] rfl rfl
      have ea9 : gpatch (ew qe cI te ++ bw qb cI u3.1 ++ sw qs cI u3.2.1 ++ uw qu cI cB u3.2.2.1 ++ kw qk qb qr qe qs qu qx qd cI u3.2.2.2) [0, 1, 2, 3, 4, 5, 6, 7, 8, 9, 10, 11, 12] (ew qe cI u6.1 ++ bw qb cI u6.2) = gpatch (gpatch (ew qe cI te ++ bw qb cI u3.1 ++ sw qs cI u3.2.1 ++ uw qu cI cB u3.2.2.1 ++ kw qk qb qr qe qs qu qx qd cI u3.2.2.2) [0, 1, 2, 3] (ew qe cI u6.1)) [4, 5, 6, 7, 8, 9, 10, 11, 12] (bw qb cI u6.2) := gpatch_app [0, 1, 2, 3] [4, 5, 6, 7, 8, 9, 10, 11, 12] (ew qe cI u6.1) (bw qb cI u6.2) (ew qe cI te ++ bw qb cI u3.1 ++ sw qs cI u3.2.1 ++ uw qu cI cB u3.2.2.1 ++ kw qk qb qr qe qs qu qx qd cI u3.2.2.2) rfl
      exact (congrArg (fun z9 => va_P (dC, dI) vwCl z9 H) (ea9.trans ((congrArg (fun z9 => gpatch z9 [4, 5, 6, 7, 8, 9, 10, 11, 12] (bw qb cI u6.2)) e09).trans e19))).mp hP
    have hf := bd_eq hw hf
    exact e_yi C0 (hf.symm.trans hFe) hP hS rfl rfl dX11_calibrate_31
abbrev rX11_note : Room := { frames := 8, cells := 4, slots := 24, locals := 132 }
set_option maxHeartbeats 4000000 in
set_option maxRecDepth 100000 in
theorem mX11_note (l : Launch) (hfl : l.stackTraces = false) (dC : Nat → ClassId) (dI : Nat → Nat → Nat) (cI cB cO cL : ClassId) (N0 : Nat) (sT eA : Nat → Nat) (qb : Nat → Nat) (qk : Nat → Nat) (qr : Nat → Nat) (qe : Nat → Nat) (qs : Nat → Nat) (qu : Nat → Nat) (qx : Nat → Nat) (qd : Nat → Nat) (b : BS) (kk : Int32) (a1 : Int32) (sz : Nat) (hsz : N0 ≤ sz) (hI : gD (fun _ => True) (bAd qb ++ kAd qk)) (hN9 : ∀ a ∈ (bAd qb ++ kAd qk : List Nat), N0 ≤ a) (hok : kX11_note b kk a1) : vx_Met l yX11_note wsX11_note rX11_note (zP N0 sz sT eA (dC, dI) (tYS cI cB cO cL) (bw qb cI b ++ kw qk qb qr qe qs qu qx qd cI kk) [.ref (qk 0), .int a1]) (yQi (dC, dI) (fun z9 : BS × Int32 => bw qb cI z9.1 ++ kw qk qb qr qe qs qu qx qd cI z9.2) (va_A (bw qb cI b ++ kw qk qb qr qe qs qu qx qd cI kk) sz) (pX11_note b kk a1)) (yX (dC, dI) (fun z9 : BS × Int32 => bw qb cI z9.1 ++ kw qk qb qr qe qs qu qx qd cI z9.2) (va_A (bw qb cI b ++ kw qk qb qr qe qs qu qx qd cI kk) sz) (pX11_note b kk a1)) 4 24 (va_A (bw qb cI b ++ kw qk qb qr qe qs qu qx qd cI kk) sz) := by
  refine zMet (cc := cX11_note) (maxL := 2) (ret := some .int) [(0, .ref (qk 0)), (1, .int a1)] (by decide) rfl rfl rfl ?_
  intro p e s mi below meth c C0 htab hz hK hF hP ls hl
  obtain ⟨hx, hb, hr, hml, hown, hts, hlocks⟩ := id C0
  have hown : s.vm.findClass RX11 = some mi.cls := hown
  have hE := hF.1
  subst hz
  have hA0 : ∀ q : Nat, s.heap.size ≤ q → (va_A (bw qb cI b ++ kw qk qb qr qe qs qu qx qd cI kk) s.heap.size) q := fun q h => Or.inr h
  have hN : ∀ q : Nat, (va_A (bw qb cI b ++ kw qk qb qr qe qs qu qx qd cI kk) s.heap.size) q → N0 ≤ q := vA_N (ws := bw qb cI b ++ kw qk qb qr qe qs qu qx qd cI kk) hN9 hsz
  have hH := hF.2.2.narrow hN
  have hS : va_S (va_A (bw qb cI b ++ kw qk qb qr qe qs qu qx qd cI kk) s.heap.size) s.heap s.heap [] := va_S.rf
  have hD : gD (va_A (bw qb cI b ++ kw qk qb qr qe qs qu qx qd cI kk) s.heap.size) (bAd qb ++ kAd qk) := gD_vA (ws := bw qb cI b ++ kw qk qb qr qe qs qu qx qd cI kk) hI
  have hP : va_P (dC, dI) vwCl (bw qb cI b ++ kw qk qb qr qe qs qu qx qd cI kk) s.heap := hP
  obtain ⟨F, hFe⟩ : ∃ F, F = pX11_note b kk a1 := ⟨_, rfl⟩
  have hf := hFe
  have hin11 : ∀ w ∈ u_ws RX11 TX11 8, w ∈ wsX11_note := by decide +kernel
  have hin2 : ∀ w ∈ u_ws RX2 TX2 8, w ∈ wsX11_note := by decide +kernel
  have fl10 := hts (.fieldLink RX11 10 "ClickBench" "bench" "LClickBench$Bench;") (by decide +kernel)
  have fl82 := hts (.fieldLink RX11 82 "ClickBench$Bench" "microphones" "LClickBench$Table;") (by decide +kernel)
  refine lv_aload_n hx hb dX11_note_0 rfl (lv_at hl 0 rfl) ?_
  refine va_get (D := (dC, dI)) (ci := 8) (v := .ref (qb 0)) (C := RX11) (T := TX11) (N := 8) hx hb hts hin11 hown hK hP 9 rfl rfl 0 (by decide) fl10 (fun _ h9 => h9) rfl dX11_note_1 ?_
  refine va_get (D := (dC, dI)) (ci := 1) (v := .ref (qb 1)) (C := RX2) (T := TX2) (N := 8) hx hb hts hin2 hown hK hP 0 rfl rfl 4 (by decide) fl82 (fun _ h9 => h9) rfl dX11_note_4 ?_
  refine lv_iload_n hx hb dX11_note_7 rfl (lv_at hl 1 rfl) ?_
  have hPc := hP.sub (ws' := tw (tad (qb 1) (qb 2)) cI 8 9 72 (b.1 4, b.2 0)) [1, 2] rfl
  refine gro_i (va_runV (As := [.int a1]) (rest := []) ⟨hx, hb, hml, hown, hts⟩ (mX9_has l dC dI cI cB cO cL (tad (qb 1) (qb 2)) 8 9 72 (b.1 4, b.2 0) a1  ) (cwV 1 hts gX11_note_X9_has rfl rfl rfl (by decide +kernel) ⟨Nat.le_of_ble_eq_true rfl, Nat.le_of_ble_eq_true rfl⟩) ⟨cP_blind, va_recv hK hPc (ci := 6) (q0 := 0) rfl rfl, cP_ok hPc hK hE⟩ rfl rfl hl.1 rfl (lv_room (Nat.le_of_ble_eq_true rfl)) dX11_note_8 ⟨Nat.le_of_ble_eq_true rfl, Nat.le_of_ble_eq_true rfl⟩) ?_
  refine x_callS (vx_runS (As := [.int (bz (pX9_has 8 9 72 (b.1 4, b.2 0) a1))]) (rest := []) ⟨hx, hb, hml, hown, hts⟩ (mX11_requireThere l hfl dC dI cI cB cO cL N0 sT eA s.heap.size (Nat.le_trans hsz hS.1) (pX9_has 8 9 72 (b.1 4, b.2 0) a1)) (va_cwS 1 hts gX11_note_X11_requireThere rfl rfl rfl (by decide +kernel) ⟨Nat.le_of_ble_eq_true rfl, Nat.le_of_ble_eq_true rfl⟩) ⟨zP_blind, zP_ok va_P_nil hK hF hS hN⟩ rfl rfl hl.1 rfl (lv_room (Nat.le_of_ble_eq_true rfl)) dX11_note_11 ⟨Nat.le_of_ble_eq_true rfl, Nat.le_of_ble_eq_true rfl⟩) hP hS hA0 (fun hne q9 ce H locs hP hS hce hcv hcl => ?_) (fun h0 H locs hP hS => ?_)
  · exact x_out htab hlocks hne ((xb_1 hne hf).symm.trans hFe) hP hS hce hcv hcl rfl rfl
  · have hf := xb_0 h0 hf
    have hok := xk_0 h0 hok
    refine lv_aload_n hx hb dX11_note_14 rfl (lv_at hl 0 rfl) ?_
    refine va_get (D := (dC, dI)) (ci := 8) (v := .ref (qb 0)) (C := RX11) (T := TX11) (N := 8) hx hb hts hin11 hown hK hP 9 rfl rfl 0 (by decide) fl10 (fun _ h9 => h9) rfl dX11_note_15 ?_
    refine va_get (D := (dC, dI)) (ci := 1) (v := .ref (qb 1)) (C := RX2) (T := TX2) (N := 8) hx hb hts hin2 hown hK hP 0 rfl rfl 4 (by decide) fl82 (fun _ h9 => h9) rfl dX11_note_18 ?_
    refine lv_iload_n hx hb dX11_note_21 rfl (lv_at hl 1 rfl) ?_
    refine lv_iconst (v := 4) hx hb dX11_note_22 (by decide) ?_
    have h1 : kX9_at 8 9 72 (b.1 4, b.2 0) a1 4 := hok
    have hPc := hP.sub (ws' := tw (tad (qb 1) (qb 2)) cI 8 9 72 (b.1 4, b.2 0)) [1, 2] rfl
    refine gro_i (va_runV (As := [.int a1, .int 4]) (rest := []) ⟨hx, hb, hml, hown, hts⟩ (mX9_at l dC dI cI cB cO cL (tad (qb 1) (qb 2)) 8 9 72 (b.1 4, b.2 0) a1 4  h1) (cwV 2 hts gX11_note_X9_at rfl rfl rfl (by decide +kernel) ⟨Nat.le_of_ble_eq_true rfl, Nat.le_of_ble_eq_true rfl⟩) ⟨cP_blind, va_recv hK hPc (ci := 6) (q0 := 0) rfl rfl, cP_ok hPc hK hE⟩ rfl rfl hl.1 rfl (lv_room (Nat.le_of_ble_eq_true rfl)) dX11_note_23 ⟨Nat.le_of_ble_eq_true rfl, Nat.le_of_ble_eq_true rfl⟩) ?_
    exact e_yi C0 (hf.symm.trans hFe) hP hS rfl rfl dX11_note_26
abbrev rX11_heard : Room := { frames := 8, cells := 4, slots := 24, locals := 132 }
set_option maxHeartbeats 4000000 in
set_option maxRecDepth 100000 in
theorem mX11_heard (l : Launch) (hfl : l.stackTraces = false) (dC : Nat → ClassId) (dI : Nat → Nat → Nat) (cI cB cO cL : ClassId) (N0 : Nat) (sT eA : Nat → Nat) (qb : Nat → Nat) (qk : Nat → Nat) (qr : Nat → Nat) (qe : Nat → Nat) (qs : Nat → Nat) (qu : Nat → Nat) (qx : Nat → Nat) (qd : Nat → Nat) (b : BS) (kk : Int32) (a1 : Int32) (a2 : Int32) (sz : Nat) (hsz : N0 ≤ sz) (hI : gD (fun _ => True) (bAd qb ++ kAd qk)) (hN9 : ∀ a ∈ (bAd qb ++ kAd qk : List Nat), N0 ≤ a) (hok : kX11_heard b kk a1 a2) : vx_Met l yX11_heard wsX11_heard rX11_heard (zP N0 sz sT eA (dC, dI) (tYS cI cB cO cL) (bw qb cI b ++ kw qk qb qr qe qs qu qx qd cI kk) [.ref (qk 0), .int a1, .int a2]) (yQi (dC, dI) (fun z9 : BS × Int32 => bw qb cI z9.1 ++ kw qk qb qr qe qs qu qx qd cI z9.2) (va_A (bw qb cI b ++ kw qk qb qr qe qs qu qx qd cI kk) sz) (pX11_heard b kk a1 a2)) (yX (dC, dI) (fun z9 : BS × Int32 => bw qb cI z9.1 ++ kw qk qb qr qe qs qu qx qd cI z9.2) (va_A (bw qb cI b ++ kw qk qb qr qe qs qu qx qd cI kk) sz) (pX11_heard b kk a1 a2)) 4 24 (va_A (bw qb cI b ++ kw qk qb qr qe qs qu qx qd cI kk) sz) := by
  refine zMet (cc := cX11_heard) (maxL := 3) (ret := some .int) [(0, .ref (qk 0)), (1, .int a1), (2, .int a2)] (by decide) rfl rfl rfl ?_
  intro p e s mi below meth c C0 htab hz hK hF hP ls hl
  obtain ⟨hx, hb, hr, hml, hown, hts, hlocks⟩ := id C0
  have hown : s.vm.findClass RX11 = some mi.cls := hown
  have hE := hF.1
  subst hz
  have hA0 : ∀ q : Nat, s.heap.size ≤ q → (va_A (bw qb cI b ++ kw qk qb qr qe qs qu qx qd cI kk) s.heap.size) q := fun q h => Or.inr h
  have hN : ∀ q : Nat, (va_A (bw qb cI b ++ kw qk qb qr qe qs qu qx qd cI kk) s.heap.size) q → N0 ≤ q := vA_N (ws := bw qb cI b ++ kw qk qb qr qe qs qu qx qd cI kk) hN9 hsz
  have hH := hF.2.2.narrow hN
  have hS : va_S (va_A (bw qb cI b ++ kw qk qb qr qe qs qu qx qd cI kk) s.heap.size) s.heap s.heap [] := va_S.rf
  have hD : gD (va_A (bw qb cI b ++ kw qk qb qr qe qs qu qx qd cI kk) s.heap.size) (bAd qb ++ kAd qk) := gD_vA (ws := bw qb cI b ++ kw qk qb qr qe qs qu qx qd cI kk) hI
  have hP : va_P (dC, dI) vwCl (bw qb cI b ++ kw qk qb qr qe qs qu qx qd cI kk) s.heap := hP
  obtain ⟨F, hFe⟩ : ∃ F, F = pX11_heard b kk a1 a2 := ⟨_, rfl⟩
  have hf := hFe
  have hin11 : ∀ w ∈ u_ws RX11 TX11 8, w ∈ wsX11_heard := by decide +kernel
  have hin2 : ∀ w ∈ u_ws RX2 TX2 8, w ∈ wsX11_heard := by decide +kernel
  have fl10 := hts (.fieldLink RX11 10 "ClickBench" "bench" "LClickBench$Bench;") (by decide +kernel)
  have fl82 := hts (.fieldLink RX11 82 "ClickBench$Bench" "microphones" "LClickBench$Table;") (by decide +kernel)
  refine lv_aload_n hx hb dX11_heard_0 rfl (lv_at hl 0 rfl) ?_
  refine va_get (D := (dC, dI)) (ci := 8) (v := .ref (qb 0)) (C := RX11) (T := TX11) (N := 8) hx hb hts hin11 hown hK hP 9 rfl rfl 0 (by decide) fl10 (fun _ h9 => h9) rfl dX11_heard_1 ?_
  refine va_get (D := (dC, dI)) (ci := 1) (v := .ref (qb 1)) (C := RX2) (T := TX2) (N := 8) hx hb hts hin2 hown hK hP 0 rfl rfl 4 (by decide) fl82 (fun _ h9 => h9) rfl dX11_heard_4 ?_
  refine lv_iload_n hx hb dX11_heard_7 rfl (lv_at hl 1 rfl) ?_
  have hPc := hP.sub (ws' := tw (tad (qb 1) (qb 2)) cI 8 9 72 (b.1 4, b.2 0)) [1, 2] rfl
  refine gro_i (va_runV (As := [.int a1]) (rest := []) ⟨hx, hb, hml, hown, hts⟩ (mX9_has l dC dI cI cB cO cL (tad (qb 1) (qb 2)) 8 9 72 (b.1 4, b.2 0) a1  ) (cwV 1 hts gX11_heard_X9_has rfl rfl rfl (by decide +kernel) ⟨Nat.le_of_ble_eq_true rfl, Nat.le_of_ble_eq_true rfl⟩) ⟨cP_blind, va_recv hK hPc (ci := 6) (q0 := 0) rfl rfl, cP_ok hPc hK hE⟩ rfl rfl hl.1 rfl (lv_room (Nat.le_of_ble_eq_true rfl)) dX11_heard_8 ⟨Nat.le_of_ble_eq_true rfl, Nat.le_of_ble_eq_true rfl⟩) ?_
  refine x_callS (vx_runS (As := [.int (bz (pX9_has 8 9 72 (b.1 4, b.2 0) a1))]) (rest := []) ⟨hx, hb, hml, hown, hts⟩ (mX11_requireThere l hfl dC dI cI cB cO cL N0 sT eA s.heap.size (Nat.le_trans hsz hS.1) (pX9_has 8 9 72 (b.1 4, b.2 0) a1)) (va_cwS 1 hts gX11_heard_X11_requireThere rfl rfl rfl (by decide +kernel) ⟨Nat.le_of_ble_eq_true rfl, Nat.le_of_ble_eq_true rfl⟩) ⟨zP_blind, zP_ok va_P_nil hK hF hS hN⟩ rfl rfl hl.1 rfl (lv_room (Nat.le_of_ble_eq_true rfl)) dX11_heard_11 ⟨Nat.le_of_ble_eq_true rfl, Nat.le_of_ble_eq_true rfl⟩) hP hS hA0 (fun hne q9 ce H locs hP hS hce hcv hcl => ?_) (fun h0 H locs hP hS => ?_)
  · exact x_out htab hlocks hne ((xb_1 hne hf).symm.trans hFe) hP hS hce hcv hcl rfl rfl
  · have hf := xb_0 h0 hf
    have hok := xk_0 h0 hok
    refine lv_iload_n hx hb dX11_heard_14 rfl (lv_at hl 2 rfl) ?_
    refine lv_iconst (v := 0) hx hb dX11_heard_15 (by decide) ?_
    refine lv_iconst (v := 3) hx hb dX11_heard_16 (by decide) ?_
    refine gro_i (va_runS (As := [.int a2, .int 0, .int 3]) (rest := []) ⟨hx, hb, hml, hown, hts⟩ (mX11_isBetween l dC dI cI cB cO cL  a2 0 3  ) (va_cwS 3 hts gX11_heard_X11_isBetween rfl rfl rfl (by decide +kernel) ⟨Nat.le_of_ble_eq_true rfl, Nat.le_of_ble_eq_true rfl⟩) ⟨cP_blind, cP_ok va_P_nil hK hE⟩ rfl rfl hl.1 rfl (lv_room (Nat.le_of_ble_eq_true rfl)) dX11_heard_17 ⟨Nat.le_of_ble_eq_true rfl, Nat.le_of_ble_eq_true rfl⟩) ?_
    refine x_callS (vx_runS (As := [.int (bz (pX11_isBetween a2 0 3))]) (rest := []) ⟨hx, hb, hml, hown, hts⟩ (mX11_requireRange l hfl dC dI cI cB cO cL N0 sT eA H.size (Nat.le_trans hsz hS.1) (pX11_isBetween a2 0 3)) (va_cwS 1 hts gX11_heard_X11_requireRange rfl rfl rfl (by decide +kernel) ⟨Nat.le_of_ble_eq_true rfl, Nat.le_of_ble_eq_true rfl⟩) ⟨zP_blind, zP_ok va_P_nil hK hF hS hN⟩ rfl rfl hl.1 rfl (lv_room (Nat.le_of_ble_eq_true rfl)) dX11_heard_20 ⟨Nat.le_of_ble_eq_true rfl, Nat.le_of_ble_eq_true rfl⟩) hP hS hA0 (fun hne q9 ce H locs hP hS hce hcv hcl => ?_) (fun h0 H locs hP hS => ?_)
    · exact x_out htab hlocks hne ((xb_1 hne hf).symm.trans hFe) hP hS hce hcv hcl rfl rfl
    · have hf := xb_0 h0 hf
      have hok := xk_0 h0 hok
      refine lv_aload_n hx hb dX11_heard_23 rfl (lv_at hl 0 rfl) ?_
      refine va_get (D := (dC, dI)) (ci := 8) (v := .ref (qb 0)) (C := RX11) (T := TX11) (N := 8) hx hb hts hin11 hown hK hP 9 rfl rfl 0 (by decide) fl10 (fun _ h9 => h9) rfl dX11_heard_24 ?_
      refine va_get (D := (dC, dI)) (ci := 1) (v := .ref (qb 1)) (C := RX2) (T := TX2) (N := 8) hx hb hts hin2 hown hK hP 0 rfl rfl 4 (by decide) fl82 (fun _ h9 => h9) rfl dX11_heard_27 ?_
      refine lv_iload_n hx hb dX11_heard_30 rfl (lv_at hl 1 rfl) ?_
      refine lv_iconst (v := 5) hx hb dX11_heard_31 (by decide) ?_
      refine lv_iload_n hx hb dX11_heard_32 rfl (lv_at hl 2 rfl) ?_
      refine lv_iadd hx hb dX11_heard_33 ?_
      have h1 : kX9_at 8 9 72 (b.1 4, b.2 0) a1 (5 + a2) := hok
      have hPc := hP.sub (ws' := tw (tad (qb 1) (qb 2)) cI 8 9 72 (b.1 4, b.2 0)) [1, 2] rfl
      refine gro_i (va_runV (As := [.int a1, .int (5 + a2)]) (rest := []) ⟨hx, hb, hml, hown, hts⟩ (mX9_at l dC dI cI cB cO cL (tad (qb 1) (qb 2)) 8 9 72 (b.1 4, b.2 0) a1 (5 + a2)  h1) (cwV 2 hts gX11_heard_X9_at rfl rfl rfl (by decide +kernel) ⟨Nat.le_of_ble_eq_true rfl, Nat.le_of_ble_eq_true rfl⟩) ⟨cP_blind, va_recv hK hPc (ci := 6) (q0 := 0) rfl rfl, cP_ok hPc hK hE⟩ rfl rfl hl.1 rfl (lv_room (Nat.le_of_ble_eq_true rfl)) dX11_heard_34 ⟨Nat.le_of_ble_eq_true rfl, Nat.le_of_ble_eq_true rfl⟩) ?_
      exact e_yi C0 (hf.symm.trans hFe) hP hS rfl rfl dX11_heard_37
abbrev rX11_arrivals : Room := { frames := 8, cells := 4, slots := 24, locals := 132 }
set_option maxHeartbeats 4000000 in
set_option maxRecDepth 100000 in
theorem mX11_arrivals (l : Launch) (hfl : l.stackTraces = false) (dC : Nat → ClassId) (dI : Nat → Nat → Nat) (cI cB cO cL : ClassId) (N0 : Nat) (sT eA : Nat → Nat) (qr : Nat → Nat) (qb : Nat → Nat) (qk : Nat → Nat) (qe : Nat → Nat) (qs : Nat → Nat) (qu : Nat → Nat) (qx : Nat → Nat) (qd : Nat → Nat) (tr : TS) (b : BS) (kk : Int32) (a1 : Int32) (a2 : Int32) (a3 : Int32) (sz : Nat) (hsz : N0 ≤ sz) (hI : gD (fun _ => True) (aAd qr ++ bAd qb ++ kAd qk)) (hN9 : ∀ a ∈ (aAd qr ++ bAd qb ++ kAd qk : List Nat), N0 ≤ a) (hok : kX11_arrivals tr b kk a1 a2 a3) : vx_Met l yX11_arrivals wsX11_arrivals rX11_arrivals (zP N0 sz sT eA (dC, dI) (tYS cI cB cO cL) (aw qr cI tr ++ bw qb cI b ++ kw qk qb qr qe qs qu qx qd cI kk) [.ref (qk 0), .int a1, .int a2, .int a3]) (yQi (dC, dI) (fun z9 : TS × BS × Int32 => aw qr cI z9.1 ++ bw qb cI z9.2.1 ++ kw qk qb qr qe qs qu qx qd cI z9.2.2) (va_A (aw qr cI tr ++ bw qb cI b ++ kw qk qb qr qe qs qu qx qd cI kk) sz) (pX11_arrivals tr b kk a1 a2 a3)) (yX (dC, dI) (fun z9 : TS × BS × Int32 => aw qr cI z9.1 ++ bw qb cI z9.2.1 ++ kw qk qb qr qe qs qu qx qd cI z9.2.2) (va_A (aw qr cI tr ++ bw qb cI b ++ kw qk qb qr qe qs qu qx qd cI kk) sz) (pX11_arrivals tr b kk a1 a2 a3)) 4 24 (va_A (aw qr cI tr ++ bw qb cI b ++ kw qk qb qr qe qs qu qx qd cI kk) sz) := by
  refine zMet (cc := cX11_arrivals) (maxL := 4) (ret := some .int) [(0, .ref (qk 0)), (1, .int a1), (2, .int a2), (3, .int a3)] (by decide) rfl rfl rfl ?_
  intro p e s mi below meth c C0 htab hz hK hF hP ls hl
  obtain ⟨hx, hb, hr, hml, hown, hts, hlocks⟩ := id C0
  have hown : s.vm.findClass RX11 = some mi.cls := hown
  have hE := hF.1
  subst hz
  have hA0 : ∀ q : Nat, s.heap.size ≤ q → (va_A (aw qr cI tr ++ bw qb cI b ++ kw qk qb qr qe qs qu qx qd cI kk) s.heap.size) q := fun q h => Or.inr h
  have hN : ∀ q : Nat, (va_A (aw qr cI tr ++ bw qb cI b ++ kw qk qb qr qe qs qu qx qd cI kk) s.heap.size) q → N0 ≤ q := vA_N (ws := aw qr cI tr ++ bw qb cI b ++ kw qk qb qr qe qs qu qx qd cI kk) hN9 hsz
  have hH := hF.2.2.narrow hN
  have hS : va_S (va_A (aw qr cI tr ++ bw qb cI b ++ kw qk qb qr qe qs qu qx qd cI kk) s.heap.size) s.heap s.heap [] := va_S.rf
  have hD : gD (va_A (aw qr cI tr ++ bw qb cI b ++ kw qk qb qr qe qs qu qx qd cI kk) s.heap.size) (aAd qr ++ bAd qb ++ kAd qk) := gD_vA (ws := aw qr cI tr ++ bw qb cI b ++ kw qk qb qr qe qs qu qx qd cI kk) hI
  have hP : va_P (dC, dI) vwCl (aw qr cI tr ++ bw qb cI b ++ kw qk qb qr qe qs qu qx qd cI kk) s.heap := hP
  obtain ⟨F, hFe⟩ : ∃ F, F = pX11_arrivals tr b kk a1 a2 a3 := ⟨_, rfl⟩
  have hf := hFe
  have hin11 : ∀ w ∈ u_ws RX11 TX11 8, w ∈ wsX11_arrivals := by decide +kernel
  have hin2 : ∀ w ∈ u_ws RX2 TX2 8, w ∈ wsX11_arrivals := by decide +kernel
  have hin1 : ∀ w ∈ u_ws RX1 TX1 1, w ∈ wsX11_arrivals := by decide +kernel
  have hin9 : ∀ w ∈ u_ws RX9 TX9 4, w ∈ wsX11_arrivals := by decide +kernel
  have fl10 := hts (.fieldLink RX11 10 "ClickBench" "bench" "LClickBench$Bench;") (by decide +kernel)
  have fl82 := hts (.fieldLink RX11 82 "ClickBench$Bench" "microphones" "LClickBench$Table;") (by decide +kernel)
  have fl19 := hts (.fieldLink RX11 19 "ClickBench" "reached" "LClickBench$Arrivals;") (by decide +kernel)
  have fl161 := hts (.fieldLink RX11 161 "ClickBench$Arrivals" "list" "LClickBench$Table;") (by decide +kernel)
  have fl131 := hts (.fieldLink RX11 131 "ClickBench$Table" "count" "I") (by decide +kernel)
  refine lv_aload_n hx hb dX11_arrivals_0 rfl (lv_at hl 0 rfl) ?_
  refine va_get (D := (dC, dI)) (ci := 8) (v := .ref (qb 0)) (C := RX11) (T := TX11) (N := 8) hx hb hts hin11 hown hK hP 12 rfl rfl 0 (by decide) fl10 (fun _ h9 => h9) rfl dX11_arrivals_1 ?_
  refine va_get (D := (dC, dI)) (ci := 1) (v := .ref (qb 1)) (C := RX2) (T := TX2) (N := 8) hx hb hts hin2 hown hK hP 3 rfl rfl 4 (by decide) fl82 (fun _ h9 => h9) rfl dX11_arrivals_4 ?_
  refine lv_iload_n hx hb dX11_arrivals_7 rfl (lv_at hl 3 rfl) ?_
  have hPc := hP.sub (ws' := tw (tad (qb 1) (qb 2)) cI 8 9 72 (b.1 4, b.2 0)) [4, 5] rfl
  refine gro_i (va_runV (As := [.int a3]) (rest := []) ⟨hx, hb, hml, hown, hts⟩ (mX9_has l dC dI cI cB cO cL (tad (qb 1) (qb 2)) 8 9 72 (b.1 4, b.2 0) a3  ) (cwV 1 hts gX11_arrivals_X9_has rfl rfl rfl (by decide +kernel) ⟨Nat.le_of_ble_eq_true rfl, Nat.le_of_ble_eq_true rfl⟩) ⟨cP_blind, va_recv hK hPc (ci := 6) (q0 := 0) rfl rfl, cP_ok hPc hK hE⟩ rfl rfl hl.1 rfl (lv_room (Nat.le_of_ble_eq_true rfl)) dX11_arrivals_8 ⟨Nat.le_of_ble_eq_true rfl, Nat.le_of_ble_eq_true rfl⟩) ?_
  refine x_callS (vx_runS (As := [.int (bz (pX9_has 8 9 72 (b.1 4, b.2 0) a3))]) (rest := []) ⟨hx, hb, hml, hown, hts⟩ (mX11_requireThere l hfl dC dI cI cB cO cL N0 sT eA s.heap.size (Nat.le_trans hsz hS.1) (pX9_has 8 9 72 (b.1 4, b.2 0) a3)) (va_cwS 1 hts gX11_arrivals_X11_requireThere rfl rfl rfl (by decide +kernel) ⟨Nat.le_of_ble_eq_true rfl, Nat.le_of_ble_eq_true rfl⟩) ⟨zP_blind, zP_ok va_P_nil hK hF hS hN⟩ rfl rfl hl.1 rfl (lv_room (Nat.le_of_ble_eq_true rfl)) dX11_arrivals_11 ⟨Nat.le_of_ble_eq_true rfl, Nat.le_of_ble_eq_true rfl⟩) hP hS hA0 (fun hne q9 ce H locs hP hS hce hcv hcl => ?_) (fun h0 H locs hP hS => ?_)
  · exact x_out htab hlocks hne ((xb_1 hne hf).symm.trans hFe) hP hS hce hcv hcl rfl rfl
  · have hf := xb_0 h0 hf
    have hok := xk_0 h0 hok
    refine lv_iload_n hx hb dX11_arrivals_14 rfl (lv_at hl 1 rfl) ?_
    refine lv_iload_n hx hb dX11_arrivals_15 rfl (lv_at hl 2 rfl) ?_
    refine gro_i (va_runS (As := [.int a1, .int a2]) (rest := []) ⟨hx, hb, hml, hown, hts⟩ (mX11_isClickPlace l dC dI cI cB cO cL  a1 a2  ) (va_cwS 2 hts gX11_arrivals_X11_isClickPlace rfl rfl rfl (by decide +kernel) ⟨Nat.le_of_ble_eq_true rfl, Nat.le_of_ble_eq_true rfl⟩) ⟨cP_blind, cP_ok va_P_nil hK hE⟩ rfl rfl hl.1 rfl (lv_room (Nat.le_of_ble_eq_true rfl)) dX11_arrivals_16 ⟨Nat.le_of_ble_eq_true rfl, Nat.le_of_ble_eq_true rfl⟩) ?_
    refine x_callS (vx_runS (As := [.int (bz (pX11_isClickPlace a1 a2))]) (rest := []) ⟨hx, hb, hml, hown, hts⟩ (mX11_requireRange l hfl dC dI cI cB cO cL N0 sT eA H.size (Nat.le_trans hsz hS.1) (pX11_isClickPlace a1 a2)) (va_cwS 1 hts gX11_arrivals_X11_requireRange rfl rfl rfl (by decide +kernel) ⟨Nat.le_of_ble_eq_true rfl, Nat.le_of_ble_eq_true rfl⟩) ⟨zP_blind, zP_ok va_P_nil hK hF hS hN⟩ rfl rfl hl.1 rfl (lv_room (Nat.le_of_ble_eq_true rfl)) dX11_arrivals_19 ⟨Nat.le_of_ble_eq_true rfl, Nat.le_of_ble_eq_true rfl⟩) hP hS hA0 (fun hne q9 ce H locs hP hS hce hcv hcl => ?_) (fun h0 H locs hP hS => ?_)
    · exact x_out htab hlocks hne ((xb_1 hne hf).symm.trans hFe) hP hS hce hcv hcl rfl rfl
    · have hf := xb_0 h0 hf
      have hok := xk_0 h0 hok
      refine lv_aload_n hx hb dX11_arrivals_22 rfl (lv_at hl 0 rfl) ?_
      refine va_get (D := (dC, dI)) (ci := 8) (v := .ref (qr 0)) (C := RX11) (T := TX11) (N := 8) hx hb hts hin11 hown hK hP 12 rfl rfl 1 (by decide) fl19 (fun _ h9 => h9) rfl dX11_arrivals_23 ?_
      refine lv_aload_n hx hb dX11_arrivals_26 rfl (lv_at hl 0 rfl) ?_
      refine va_get (D := (dC, dI)) (ci := 8) (v := .ref (qb 0)) (C := RX11) (T := TX11) (N := 8) hx hb hts hin11 hown hK hP 12 rfl rfl 0 (by decide) fl10 (fun _ h9 => h9) rfl dX11_arrivals_27 ?_
      refine lv_iload_n hx hb dX11_arrivals_30 rfl (lv_at hl 1 rfl) ?_
      refine lv_iload_n hx hb dX11_arrivals_31 rfl (lv_at hl 2 rfl) ?_
      refine lv_iload_n hx hb dX11_arrivals_32 rfl (lv_at hl 3 rfl) ?_
      have h1 : kX1_collect tr b a1 a2 a3 := hok
      have hPc := hP.sub (ws' := aw qr cI tr ++ bw qb cI b) [0, 1, 2, 3, 4, 5, 6, 7, 8, 9, 10, 11] rfl
      refine gmu_v (va_runV (As := [.ref (qb 0), .int a1, .int a2, .int a3]) (rest := []) ⟨hx, hb, hml, hown, hts⟩ (mX1_collect l dC dI cI cB cO cL qr qb tr b a1 a2 a3 (gD_subT hD [0, 1, 2, 3, 4, 5, 6, 7, 8, 9, 10, 11] rfl rfl) h1) (cwV 4 hts gX11_arrivals_X1_collect rfl rfl rfl (by decide +kernel) ⟨Nat.le_of_ble_eq_true rfl, Nat.le_of_ble_eq_true rfl⟩) ⟨cP_blind, va_recv hK hPc (ci := 0) (q0 := 0) rfl rfl, cP_ok hPc hK hE⟩ rfl rfl hl.1 rfl (lv_room (Nat.le_of_ble_eq_true rfl)) dX11_arrivals_33 ⟨Nat.le_of_ble_eq_true rfl, Nat.le_of_ble_eq_true rfl⟩) hP (gD_va hD rfl) hS [0, 1, 2, 3, 4, 5, 6, 7, 8, 9, 10, 11] rfl (fun _ => rfl) (fun u3 H locs hw hP hS => ?_)
      have hP : va_P (dC, dI) vwCl (aw qr cI u3.1 ++ bw qb cI u3.2 ++ kw qk qb qr qe qs qu qx qd cI kk) H := hP
      have hf := lt_eq hw hf
      refine lv_aload_n hx hb dX11_arrivals_36 rfl (lv_at hl 0 rfl) ?_
      refine va_get (D := (dC, dI)) (ci := 8) (v := .ref (qr 0)) (C := RX11) (T := TX11) (N := 8) hx hb hts hin11 hown hK hP 12 rfl rfl 1 (by decide) fl19 (fun _ h9 => h9) rfl dX11_arrivals_37 ?_
      refine va_get (D := (dC, dI)) (ci := 0) (v := .ref (qr 1)) (C := RX1) (T := TX1) (N := 1) hx hb hts hin1 hown hK hP 0 rfl rfl 0 (by decide) fl161 (fun _ h9 => h9) rfl dX11_arrivals_40 ?_
      refine va_get (D := (dC, dI)) (ci := 6) (v := .int u3.1.1) (C := RX9) (T := TX9) (N := 4) hx hb hts hin9 hown hK hP 1 rfl rfl 3 (by decide) fl131 (fun _ h9 => h9) rfl dX11_arrivals_43 ?_
      exact e_yi C0 (hf.symm.trans hFe) hP hS rfl rfl dX11_arrivals_46
abbrev rX11_arrival : Room := { frames := 8, cells := 4, slots := 24, locals := 132 }
set_option maxHeartbeats 4000000 in
set_option maxRecDepth 100000 in
theorem mX11_arrival (l : Launch) (hfl : l.stackTraces = false) (dC : Nat → ClassId) (dI : Nat → Nat → Nat) (cI cB cO cL : ClassId) (N0 : Nat) (sT eA : Nat → Nat) (qr : Nat → Nat) (qb : Nat → Nat) (qk : Nat → Nat) (qe : Nat → Nat) (qs : Nat → Nat) (qu : Nat → Nat) (qx : Nat → Nat) (qd : Nat → Nat) (tr : TS) (b : BS) (kk : Int32) (a1 : Int32) (a2 : Int32) (a3 : Int32) (a4 : Int32) (a5 : Int32) (sz : Nat) (hsz : N0 ≤ sz) (hI : gD (fun _ => True) (aAd qr ++ bAd qb ++ kAd qk)) (hN9 : ∀ a ∈ (aAd qr ++ bAd qb ++ kAd qk : List Nat), N0 ≤ a) (hok : kX11_arrival tr b kk a1 a2 a3 a4 a5) : vx_Met l yX11_arrival wsX11_arrival rX11_arrival (zP N0 sz sT eA (dC, dI) (tYS cI cB cO cL) (aw qr cI tr ++ bw qb cI b ++ kw qk qb qr qe qs qu qx qd cI kk) [.ref (qk 0), .int a1, .int a2, .int a3, .int a4, .int a5]) (yQi (dC, dI) (fun z9 : TS × BS × Int32 => aw qr cI z9.1 ++ bw qb cI z9.2.1 ++ kw qk qb qr qe qs qu qx qd cI z9.2.2) (va_A (aw qr cI tr ++ bw qb cI b ++ kw qk qb qr qe qs qu qx qd cI kk) sz) (pX11_arrival tr b kk a1 a2 a3 a4 a5)) (yX (dC, dI) (fun z9 : TS × BS × Int32 => aw qr cI z9.1 ++ bw qb cI z9.2.1 ++ kw qk qb qr qe qs qu qx qd cI z9.2.2) (va_A (aw qr cI tr ++ bw qb cI b ++ kw qk qb qr qe qs qu qx qd cI kk) sz) (pX11_arrival tr b kk a1 a2 a3 a4 a5)) 4 24 (va_A (aw qr cI tr ++ bw qb cI b ++ kw qk qb qr qe qs qu qx qd cI kk) sz) := by
  refine zMet (cc := cX11_arrival) (maxL := 6) (ret := some .int) [(0, .ref (qk 0)), (1, .int a1), (2, .int a2), (3, .int a3), (4, .int a4), (5, .int a5)] (by decide) rfl rfl rfl ?_
  intro p e s mi below meth c C0 htab hz hK hF hP ls hl
  obtain ⟨hx, hb, hr, hml, hown, hts, hlocks⟩ := id C0
  have hown : s.vm.findClass RX11 = some mi.cls := hown
  have hE := hF.1
  subst hz
  have hA0 : ∀ q : Nat, s.heap.size ≤ q → (va_A (aw qr cI tr ++ bw qb cI b ++ kw qk qb qr qe qs qu qx qd cI kk) s.heap.size) q := fun q h => Or.inr h
  have hN : ∀ q : Nat, (va_A (aw qr cI tr ++ bw qb cI b ++ kw qk qb qr qe qs qu qx qd cI kk) s.heap.size) q → N0 ≤ q := vA_N (ws := aw qr cI tr ++ bw qb cI b ++ kw qk qb qr qe qs qu qx qd cI kk) hN9 hsz
  have hH := hF.2.2.narrow hN
  have hS : va_S (va_A (aw qr cI tr ++ bw qb cI b ++ kw qk qb qr qe qs qu qx qd cI kk) s.heap.size) s.heap s.heap [] := va_S.rf
  have hD : gD (va_A (aw qr cI tr ++ bw qb cI b ++ kw qk qb qr qe qs qu qx qd cI kk) s.heap.size) (aAd qr ++ bAd qb ++ kAd qk) := gD_vA (ws := aw qr cI tr ++ bw qb cI b ++ kw qk qb qr qe qs qu qx qd cI kk) hI
  have hP : va_P (dC, dI) vwCl (aw qr cI tr ++ bw qb cI b ++ kw qk qb qr qe qs qu qx qd cI kk) s.heap := hP
  obtain ⟨F, hFe⟩ : ∃ F, F = pX11_arrival tr b kk a1 a2 a3 a4 a5 := ⟨_, rfl⟩
  have hf := hFe
  have hin11 : ∀ w ∈ u_ws RX11 TX11 8, w ∈ wsX11_arrival := by decide +kernel
  have hin2 : ∀ w ∈ u_ws RX2 TX2 8, w ∈ wsX11_arrival := by decide +kernel
  have hin1 : ∀ w ∈ u_ws RX1 TX1 1, w ∈ wsX11_arrival := by decide +kernel
  have fl10 := hts (.fieldLink RX11 10 "ClickBench" "bench" "LClickBench$Bench;") (by decide +kernel)
  have fl82 := hts (.fieldLink RX11 82 "ClickBench$Bench" "microphones" "LClickBench$Table;") (by decide +kernel)
  have fl19 := hts (.fieldLink RX11 19 "ClickBench" "reached" "LClickBench$Arrivals;") (by decide +kernel)
  have fl161 := hts (.fieldLink RX11 161 "ClickBench$Arrivals" "list" "LClickBench$Table;") (by decide +kernel)
  have J_42 : ∀ (v1_42 : Int32) (v2_42 : Int32) (v3_42 : Int32) (v4_42 : Int32) (v5_42 : Int32) (t0_42 : Bool) (tr_42 : TS) (b_42 : BS) (kk_42 : Int32) (H : Heap) (locs : List Loc), va_P (dC, dI) vwCl (aw qr cI tr_42 ++ bw qb cI b_42 ++ kw qk qb qr qe qs qu qx qd cI kk_42) H → va_S (va_A (aw qr cI tr ++ bw qb cI b ++ kw qk qb qr qe qs qu qx qd cI kk) s.heap.size) s.heap H locs → ∀ ls : Array Slot, lv_has ls 6 [(0, .ref (qk 0)), (1, .int v1_42), (2, .int v2_42), (3, .int v3_42), (4, .int v4_42), (5, .int v5_42)] → F = pX11_arrival_L42 v1_42 v2_42 v3_42 v4_42 v5_42 t0_42 tr_42 b_42 kk_42 → kX11_arrival_L42 v1_42 v2_42 v3_42 v4_42 v5_42 t0_42 tr_42 b_42 kk_42 → W p l e rX11_arrival s mi ([.ref (qk 0), .int a1, .int a2, .int a3, .int a4, .int a5] : List Value).toArray below meth c H locs 1 6 (vx_MQ below (yQi (dC, dI) (fun z9 : TS × BS × Int32 => aw qr cI z9.1 ++ bw qb cI z9.2.1 ++ kw qk qb qr qe qs qu qx qd cI z9.2.2) (va_A (aw qr cI tr ++ bw qb cI b ++ kw qk qb qr qe qs qu qx qd cI kk) s.heap.size) (pX11_arrival tr b kk a1 a2 a3 a4 a5)) (yX (dC, dI) (fun z9 : TS × BS × Int32 => aw qr cI z9.1 ++ bw qb cI z9.2.1 ++ kw qk qb qr qe qs qu qx qd cI z9.2.2) (va_A (aw qr cI tr ++ bw qb cI b ++ kw qk qb qr qe qs qu qx qd cI kk) s.heap.size) (pX11_arrival tr b kk a1 a2 a3 a4 a5)) ([.ref (qk 0), .int a1, .int a2, .int a3, .int a4, .int a5] : List Value).toArray s 4 24 (va_A (aw qr cI tr ++ bw qb cI b ++ kw qk qb qr qe qs qu qx qd cI kk) s.heap.size)) (F0 mi 42 ls [.int (bz t0_42)]) := by
    intro v1_42 v2_42 v3_42 v4_42 v5_42 t0_42 tr_42 b_42 kk_42 H locs hP hS ls hl hf hok
    refine x_callS (vx_runS (As := [.int (bz t0_42)]) (rest := []) ⟨hx, hb, hml, hown, hts⟩ (mX11_requireRange l hfl dC dI cI cB cO cL N0 sT eA H.size (Nat.le_trans hsz hS.1) t0_42) (va_cwS 1 hts gX11_arrival_X11_requireRange rfl rfl rfl (by decide +kernel) ⟨Nat.le_of_ble_eq_true rfl, Nat.le_of_ble_eq_true rfl⟩) ⟨zP_blind, zP_ok va_P_nil hK hF hS hN⟩ rfl rfl hl.1 rfl (lv_room (Nat.le_of_ble_eq_true rfl)) dX11_arrival_42 ⟨Nat.le_of_ble_eq_true rfl, Nat.le_of_ble_eq_true rfl⟩) hP hS hA0 (fun hne q9 ce H locs hP hS hce hcv hcl => ?_) (fun h0 H locs hP hS => ?_)
    · exact x_out htab hlocks hne ((xb_1 hne hf).symm.trans hFe) hP hS hce hcv hcl rfl rfl
    · have hf := xb_0 h0 hf
      have hok := xk_0 h0 hok
      refine lv_aload_n hx hb dX11_arrival_45 rfl (lv_at hl 0 rfl) ?_
      refine va_get (D := (dC, dI)) (ci := 8) (v := .ref (qr 0)) (C := RX11) (T := TX11) (N := 8) hx hb hts hin11 hown hK hP 12 rfl rfl 1 (by decide) fl19 (fun _ h9 => h9) rfl dX11_arrival_46 ?_
      refine lv_aload_n hx hb dX11_arrival_49 rfl (lv_at hl 0 rfl) ?_
      refine va_get (D := (dC, dI)) (ci := 8) (v := .ref (qb 0)) (C := RX11) (T := TX11) (N := 8) hx hb hts hin11 hown hK hP 12 rfl rfl 0 (by decide) fl10 (fun _ h9 => h9) rfl dX11_arrival_50 ?_
      refine lv_iload_n hx hb dX11_arrival_53 rfl (lv_at hl 1 rfl) ?_
      refine lv_iload_n hx hb dX11_arrival_54 rfl (lv_at hl 2 rfl) ?_
      refine lv_iload_n hx hb dX11_arrival_55 rfl (lv_at hl 3 rfl) ?_
      obtain ⟨h2, hok⟩ := hok
      have hPc := hP.sub (ws' := aw qr cI tr_42 ++ bw qb cI b_42) [0, 1, 2, 3, 4, 5, 6, 7, 8, 9, 10, 11] rfl
      refine gmu_v (va_runV (As := [.ref (qb 0), .int v1_42, .int v2_42, .int v3_42]) (rest := []) ⟨hx, hb, hml, hown, hts⟩ (mX1_collect l dC dI cI cB cO cL qr qb tr_42 b_42 v1_42 v2_42 v3_42 (gD_subT hD [0, 1, 2, 3, 4, 5, 6, 7, 8, 9, 10, 11] rfl rfl) h2) (cwV 4 hts gX11_arrival_X1_collect rfl rfl rfl (by decide +kernel) ⟨Nat.le_of_ble_eq_true rfl, Nat.le_of_ble_eq_true rfl⟩) ⟨cP_blind, va_recv hK hPc (ci := 0) (q0 := 0) rfl rfl, cP_ok hPc hK hE⟩ rfl rfl hl.1 rfl (lv_room (Nat.le_of_ble_eq_true rfl)) dX11_arrival_56 ⟨Nat.le_of_ble_eq_true rfl, Nat.le_of_ble_eq_true rfl⟩) hP (gD_va hD rfl) hS [0, 1, 2, 3, 4, 5, 6, 7, 8, 9, 10, 11] rfl (fun _ => rfl) (fun u4 H locs hw hP hS => ?_)
      have hP : va_P (dC, dI) vwCl (aw qr cI u4.1 ++ bw qb cI u4.2 ++ kw qk qb qr qe qs qu qx qd cI kk_42) H := hP
      have hf := lt_eq hw hf
      have hok := lt_ok hw hok
      refine lv_aload_n hx hb dX11_arrival_59 rfl (lv_at hl 0 rfl) ?_
      refine va_get (D := (dC, dI)) (ci := 8) (v := .ref (qr 0)) (C := RX11) (T := TX11) (N := 8) hx hb hts hin11 hown hK hP 12 rfl rfl 1 (by decide) fl19 (fun _ h9 => h9) rfl dX11_arrival_60 ?_
      refine va_get (D := (dC, dI)) (ci := 0) (v := .ref (qr 1)) (C := RX1) (T := TX1) (N := 1) hx hb hts hin1 hown hK hP 0 rfl rfl 0 (by decide) fl161 (fun _ h9 => h9) rfl dX11_arrival_63 ?_
      refine lv_iload hx hb dX11_arrival_66 (lv_at hl 4 rfl) ?_
      refine lv_iload hx hb dX11_arrival_68 (lv_at hl 5 rfl) ?_
      have h5 : kX9_at 17 6 102 u4.1 v4_42 v5_42 := hok
      have hPc := hP.sub (ws' := tw (tad (qr 1) (qr 2)) cI 17 6 102 u4.1) [1, 2] rfl
      refine gro_i (va_runV (As := [.int v4_42, .int v5_42]) (rest := []) ⟨hx, hb, hml, hown, hts⟩ (mX9_at l dC dI cI cB cO cL (tad (qr 1) (qr 2)) 17 6 102 u4.1 v4_42 v5_42  h5) (cwV 2 hts gX11_arrival_X9_at rfl rfl rfl (by decide +kernel) ⟨Nat.le_of_ble_eq_true rfl, Nat.le_of_ble_eq_true rfl⟩) ⟨cP_blind, va_recv hK hPc (ci := 6) (q0 := 0) rfl rfl, cP_ok hPc hK hE⟩ rfl rfl hl.1 rfl (lv_room (Nat.le_of_ble_eq_true rfl)) dX11_arrival_70 ⟨Nat.le_of_ble_eq_true rfl, Nat.le_of_ble_eq_true rfl⟩) ?_
      exact e_yi C0 (hf.symm.trans hFe) hP hS rfl rfl dX11_arrival_73
  have J_41 : ∀ (v1_41 : Int32) (v2_41 : Int32) (v3_41 : Int32) (v4_41 : Int32) (v5_41 : Int32) (tr_41 : TS) (b_41 : BS) (kk_41 : Int32) (H : Heap) (locs : List Loc), va_P (dC, dI) vwCl (aw qr cI tr_41 ++ bw qb cI b_41 ++ kw qk qb qr qe qs qu qx qd cI kk_41) H → va_S (va_A (aw qr cI tr ++ bw qb cI b ++ kw qk qb qr qe qs qu qx qd cI kk) s.heap.size) s.heap H locs → ∀ ls : Array Slot, lv_has ls 6 [(0, .ref (qk 0)), (1, .int v1_41), (2, .int v2_41), (3, .int v3_41), (4, .int v4_41), (5, .int v5_41)] → F = pX11_arrival_L41 v1_41 v2_41 v3_41 v4_41 v5_41 tr_41 b_41 kk_41 → kX11_arrival_L41 v1_41 v2_41 v3_41 v4_41 v5_41 tr_41 b_41 kk_41 → W p l e rX11_arrival s mi ([.ref (qk 0), .int a1, .int a2, .int a3, .int a4, .int a5] : List Value).toArray below meth c H locs 1 6 (vx_MQ below (yQi (dC, dI) (fun z9 : TS × BS × Int32 => aw qr cI z9.1 ++ bw qb cI z9.2.1 ++ kw qk qb qr qe qs qu qx qd cI z9.2.2) (va_A (aw qr cI tr ++ bw qb cI b ++ kw qk qb qr qe qs qu qx qd cI kk) s.heap.size) (pX11_arrival tr b kk a1 a2 a3 a4 a5)) (yX (dC, dI) (fun z9 : TS × BS × Int32 => aw qr cI z9.1 ++ bw qb cI z9.2.1 ++ kw qk qb qr qe qs qu qx qd cI z9.2.2) (va_A (aw qr cI tr ++ bw qb cI b ++ kw qk qb qr qe qs qu qx qd cI kk) s.heap.size) (pX11_arrival tr b kk a1 a2 a3 a4 a5)) ([.ref (qk 0), .int a1, .int a2, .int a3, .int a4, .int a5] : List Value).toArray s 4 24 (va_A (aw qr cI tr ++ bw qb cI b ++ kw qk qb qr qe qs qu qx qd cI kk) s.heap.size)) (F0 mi 41 ls []) := by
    intro v1_41 v2_41 v3_41 v4_41 v5_41 tr_41 b_41 kk_41 H locs hP hS ls hl hf hok
    refine lv_iconst (v := 0) hx hb dX11_arrival_41 (by decide) ?_
    exact J_42 v1_41 v2_41 v3_41 v4_41 v5_41 false tr_41 b_41 kk_41 _ _ hP hS _ (lv_sub hl [0, 1, 2, 3, 4, 5] rfl) hf hok
  refine lv_aload_n hx hb dX11_arrival_0 rfl (lv_at hl 0 rfl) ?_
  refine va_get (D := (dC, dI)) (ci := 8) (v := .ref (qb 0)) (C := RX11) (T := TX11) (N := 8) hx hb hts hin11 hown hK hP 12 rfl rfl 0 (by decide) fl10 (fun _ h9 => h9) rfl dX11_arrival_1 ?_
  refine va_get (D := (dC, dI)) (ci := 1) (v := .ref (qb 1)) (C := RX2) (T := TX2) (N := 8) hx hb hts hin2 hown hK hP 3 rfl rfl 4 (by decide) fl82 (fun _ h9 => h9) rfl dX11_arrival_4 ?_
  refine lv_iload_n hx hb dX11_arrival_7 rfl (lv_at hl 3 rfl) ?_
  have hPc := hP.sub (ws' := tw (tad (qb 1) (qb 2)) cI 8 9 72 (b.1 4, b.2 0)) [4, 5] rfl
  refine gro_i (va_runV (As := [.int a3]) (rest := []) ⟨hx, hb, hml, hown, hts⟩ (mX9_has l dC dI cI cB cO cL (tad (qb 1) (qb 2)) 8 9 72 (b.1 4, b.2 0) a3  ) (cwV 1 hts gX11_arrival_X9_has rfl rfl rfl (by decide +kernel) ⟨Nat.le_of_ble_eq_true rfl, Nat.le_of_ble_eq_true rfl⟩) ⟨cP_blind, va_recv hK hPc (ci := 6) (q0 := 0) rfl rfl, cP_ok hPc hK hE⟩ rfl rfl hl.1 rfl (lv_room (Nat.le_of_ble_eq_true rfl)) dX11_arrival_8 ⟨Nat.le_of_ble_eq_true rfl, Nat.le_of_ble_eq_true rfl⟩) ?_
  refine x_callS (vx_runS (As := [.int (bz (pX9_has 8 9 72 (b.1 4, b.2 0) a3))]) (rest := []) ⟨hx, hb, hml, hown, hts⟩ (mX11_requireThere l hfl dC dI cI cB cO cL N0 sT eA s.heap.size (Nat.le_trans hsz hS.1) (pX9_has 8 9 72 (b.1 4, b.2 0) a3)) (va_cwS 1 hts gX11_arrival_X11_requireThere rfl rfl rfl (by decide +kernel) ⟨Nat.le_of_ble_eq_true rfl, Nat.le_of_ble_eq_true rfl⟩) ⟨zP_blind, zP_ok va_P_nil hK hF hS hN⟩ rfl rfl hl.1 rfl (lv_room (Nat.le_of_ble_eq_true rfl)) dX11_arrival_11 ⟨Nat.le_of_ble_eq_true rfl, Nat.le_of_ble_eq_true rfl⟩) hP hS hA0 (fun hne q9 ce H locs hP hS hce hcv hcl => ?_) (fun h0 H locs hP hS => ?_)
  · exact x_out htab hlocks hne ((xb_1 hne hf).symm.trans hFe) hP hS hce hcv hcl rfl rfl
  · have hf := xb_0 h0 hf
    have hok := xk_0 h0 hok
    refine lv_iload_n hx hb dX11_arrival_14 rfl (lv_at hl 1 rfl) ?_
    refine lv_iload_n hx hb dX11_arrival_15 rfl (lv_at hl 2 rfl) ?_
    refine gro_i (va_runS (As := [.int a1, .int a2]) (rest := []) ⟨hx, hb, hml, hown, hts⟩ (mX11_isClickPlace l dC dI cI cB cO cL  a1 a2  ) (va_cwS 2 hts gX11_arrival_X11_isClickPlace rfl rfl rfl (by decide +kernel) ⟨Nat.le_of_ble_eq_true rfl, Nat.le_of_ble_eq_true rfl⟩) ⟨cP_blind, cP_ok va_P_nil hK hE⟩ rfl rfl hl.1 rfl (lv_room (Nat.le_of_ble_eq_true rfl)) dX11_arrival_16 ⟨Nat.le_of_ble_eq_true rfl, Nat.le_of_ble_eq_true rfl⟩) ?_
    refine lv_if_eq (tgt := 41) hx hb dX11_arrival_19 (by decide) (fun c1 => ?_) (fun c1 => ?_)
    · have c1 := bz_f c1
      have hf := ie_eq c1 hf
      have hok := ie_ok c1 hok
      exact J_41 a1 a2 a3 a4 a5 tr b kk _ _ hP hS _ (lv_sub hl [0, 1, 2, 3, 4, 5] rfl) hf hok
    · have c1 := bz_t c1
      have hf := it_eq c1 hf
      have hok := it_ok c1 hok
      refine lv_iload hx hb dX11_arrival_22 (lv_at hl 4 rfl) ?_
      refine lv_if_lt (tgt := 41) hx hb dX11_arrival_24 (by decide) (fun c6 => ?_) (fun c6 => ?_)
      · have hf := it_eq c6 hf
        have hok := it_ok c6 hok
        exact J_41 a1 a2 a3 a4 a5 tr b kk _ _ hP hS _ (lv_sub hl [0, 1, 2, 3, 4, 5] rfl) hf hok
      · have hf := ie_eq c6 hf
        have hok := ie_ok c6 hok
        refine lv_iload hx hb dX11_arrival_27 (lv_at hl 5 rfl) ?_
        refine lv_iconst (v := 0) hx hb dX11_arrival_29 (by decide) ?_
        refine lv_iconst (v := 3) hx hb dX11_arrival_30 (by decide) ?_
        refine gro_i (va_runS (As := [.int a5, .int 0, .int 3]) (rest := []) ⟨hx, hb, hml, hown, hts⟩ (mX11_isBetween l dC dI cI cB cO cL  a5 0 3  ) (va_cwS 3 hts gX11_arrival_X11_isBetween rfl rfl rfl (by decide +kernel) ⟨Nat.le_of_ble_eq_true rfl, Nat.le_of_ble_eq_true rfl⟩) ⟨cP_blind, cP_ok va_P_nil hK hE⟩ rfl rfl hl.1 rfl (lv_room (Nat.le_of_ble_eq_true rfl)) dX11_arrival_31 ⟨Nat.le_of_ble_eq_true rfl, Nat.le_of_ble_eq_true rfl⟩) ?_
        refine lv_if_eq (tgt := 41) hx hb dX11_arrival_34 (by decide) (fun c7 => ?_) (fun c7 => ?_)
        · have c7 := bz_f c7
          have hf := ie_eq c7 hf
          have hok := ie_ok c7 hok
          exact J_41 a1 a2 a3 a4 a5 tr b kk _ _ hP hS _ (lv_sub hl [0, 1, 2, 3, 4, 5] rfl) hf hok
        · have c7 := bz_t c7
          have hf := it_eq c7 hf
          have hok := it_ok c7 hok
          refine lv_iconst (v := 1) hx hb dX11_arrival_37 (by decide) ?_
          refine lv_goto (tgt := 42) hx hb dX11_arrival_38 (by decide) ?_
          exact J_42 a1 a2 a3 a4 a5 true tr b kk _ _ hP hS _ (lv_sub hl [0, 1, 2, 3, 4, 5] rfl) hf hok
