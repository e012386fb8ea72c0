noncomputable def pX2_refusalOfSetting (b : BS) (a1 : Int32) (a2 : Int32) : Int32 := if (pX11_isBetween a1 0 6) = true then (if (pX11_isBetween a2 (sL2.getD a1.toNatClampNeg 0) (sL3.getD a1.toNatClampNeg 0)) = true then (0) else (2)) else (2)
def kX2_refusalOfSetting (b : BS) (a1 : Int32) (a2 : Int32) : Prop := if (pX11_isBetween a1 0 6) = true then ((vp_in a1 7) ∧ (vp_in a1 7)) else (True)
abbrev rX2_refusalOfSetting : Room := { frames := 1, cells := 0, slots := 0, locals := 22 }
set_option maxHeartbeats 4000000 in
set_option maxRecDepth 100000 in
theorem mX2_refusalOfSetting (l : Launch) (dC : Nat → ClassId) (dI : Nat → Nat → Nat) (cI cB cO cL : ClassId) (N0 : Nat) (sT eA : Nat → Nat) (qb : Nat → Nat) (b : BS) (a1 : Int32) (a2 : Int32) (hok : kX2_refusalOfSetting b a1 a2) : Met l yX2_refusalOfSetting wsX2_refusalOfSetting rX2_refusalOfSetting (fP N0 sT eA (dC, dI) (tYS cI cB cO cL) (bw qb cI b) [.ref (qb 0), .int a1, .int a2]) (gRi (pX2_refusalOfSetting b a1 a2)) 0 0 (fun _ => False) := by
  refine fMet (cc := cX2_refusalOfSetting) (maxL := 3) (ret := some .int) [(0, .ref (qb 0)), (1, .int a1), (2, .int a2)] (by decide) rfl rfl rfl ?_
  intro p e s mi below meth c C0 hK hF hP ls hl
  obtain ⟨hx, hb, hr, hml, hown, hts, hlocks⟩ := id C0
  have hown : s.vm.findClass RX2 = some mi.cls := hown
  have hE := hF.1
  have hN : ∀ q : Nat, (fun _ : Nat => False) q → N0 ≤ q := fun _ h => h.elim
  have hS : va_S (fun _ : Nat => False) s.heap s.heap [] := va_S.rf
  have hH := hF.2.2.narrow hN
  obtain ⟨F, hFe⟩ : ∃ F, F = pX2_refusalOfSetting b a1 a2 := ⟨_, rfl⟩
  have hf := hFe
  refine lv_iload_n hx hb dX2_refusalOfSetting_0 rfl (lv_at hl 1 rfl) ?_
  refine lv_iconst (v := 0) hx hb dX2_refusalOfSetting_1 (by decide) ?_
  refine lv_bipush (v := 6) hx hb dX2_refusalOfSetting_2 (by decide) ?_
  refine gro_i (va_runSN (As := [.int a1, .int 0, .int 6]) (rest := []) ⟨hx, hb, hml, hown, hts⟩ (mX11_isBetween l dC dI cI cB cO cL  a1 0 6  ) ⟨va_cnB 3 hts gX2_refusalOfSetting_X11_isBetween_n65 rfl rfl rfl (eN.at hF.1 (own := RX2) (idx := 65) (y := yX11_isBetween) (host := "ClickBench") (by decide +kernel)) (hts (.initialized RX11) (by decide +kernel)) (by decide +kernel) ⟨Nat.le_of_ble_eq_true rfl, Nat.le_of_ble_eq_true rfl⟩, hts (.static yX11_isBetween) (by decide +kernel), trivial⟩ ⟨cP_blind, cP_ok va_P_nil hK hE⟩ rfl rfl hl.1 rfl (lv_room (Nat.le_of_ble_eq_true rfl)) dX2_refusalOfSetting_4 ⟨Nat.zero_le _, Nat.zero_le _⟩) ?_
  refine lv_if_ne (tgt := 12) hx hb dX2_refusalOfSetting_7 (by decide) (fun c1 => ?_) (fun c1 => ?_)
  · have c1 := bz_t c1
    have hf := it_eq c1 hf
    have hok := it_ok c1 hok
    refine lv_iload_n hx hb dX2_refusalOfSetting_12 rfl (lv_at hl 2 rfl) ?_
    refine va_getsN hx hb hH.2.2.1.1 hS hown (va_Nw.use rfl (hF.2.1.at (own := RX2) (idx := 76) (r := "ClickBench") (n := "LEAST_SETTINGS") (d := "[I") (host := "ClickBench") (by decide +kernel))) (fun _ h9 => h9) dX2_refusalOfSetting_13 ?_
    refine lv_iload_n hx hb dX2_refusalOfSetting_16 rfl (lv_at hl 1 rfl) ?_
    obtain ⟨h4, hok⟩ := hok
    refine va_ti (v := .int (sL2.getD a1.toNatClampNeg 0)) hx hb hH.2.2.1.2 hS h4 rfl dX2_refusalOfSetting_17 ?_
    refine va_getsN hx hb hH.2.2.2.1.1 hS hown (va_Nw.use rfl (hF.2.1.at (own := RX2) (idx := 79) (r := "ClickBench") (n := "GREATEST_SETTINGS") (d := "[I") (host := "ClickBench") (by decide +kernel))) (fun _ h9 => h9) dX2_refusalOfSetting_18 ?_
    refine lv_iload_n hx hb dX2_refusalOfSetting_21 rfl (lv_at hl 1 rfl) ?_
    have h3 : vp_in a1 7 := hok
    refine va_ti (v := .int (sL3.getD a1.toNatClampNeg 0)) hx hb hH.2.2.2.1.2 hS h3 rfl dX2_refusalOfSetting_22 ?_
    refine gro_i (va_runSN (As := [.int a2, .int (sL2.getD a1.toNatClampNeg 0), .int (sL3.getD a1.toNatClampNeg 0)]) (rest := []) ⟨hx, hb, hml, hown, hts⟩ (mX11_isBetween l dC dI cI cB cO cL  a2 (sL2.getD a1.toNatClampNeg 0) (sL3.getD a1.toNatClampNeg 0)  ) ⟨va_cnB 3 hts gX2_refusalOfSetting_X11_isBetween_n65 rfl rfl rfl (eN.at hF.1 (own := RX2) (idx := 65) (y := yX11_isBetween) (host := "ClickBench") (by decide +kernel)) (hts (.initialized RX11) (by decide +kernel)) (by decide +kernel) ⟨Nat.le_of_ble_eq_true rfl, Nat.le_of_ble_eq_true rfl⟩, hts (.static yX11_isBetween) (by decide +kernel), trivial⟩ ⟨cP_blind, cP_ok va_P_nil hK hE⟩ rfl rfl hl.1 rfl (lv_room (Nat.le_of_ble_eq_true rfl)) dX2_refusalOfSetting_23 ⟨Nat.zero_le _, Nat.zero_le _⟩) ?_
    refine lv_if_eq (tgt := 33) hx hb dX2_refusalOfSetting_26 (by decide) (fun c2 => ?_) (fun c2 => ?_)
    · have c2 := bz_f c2
      have hf := ie_eq c2 hf
      refine lv_iconst (v := 2) hx hb dX2_refusalOfSetting_33 (by decide) ?_
      exact e_ri C0 (hf.symm.trans hFe) dX2_refusalOfSetting_34
    · have c2 := bz_t c2
      have hf := it_eq c2 hf
      refine lv_iconst (v := 0) hx hb dX2_refusalOfSetting_29 (by decide) ?_
      refine lv_goto (tgt := 34) hx hb dX2_refusalOfSetting_30 (by decide) ?_
      exact e_ri C0 (hf.symm.trans hFe) dX2_refusalOfSetting_34
  · have c1 := bz_f c1
    have hf := ie_eq c1 hf
    refine lv_iconst (v := 2) hx hb dX2_refusalOfSetting_10 (by decide) ?_
    exact e_ri C0 (hf.symm.trans hFe) dX2_refusalOfSetting_11
noncomputable def pX11_set (b : BS) (s9 : SS) (u : US) (kk : Int32) (a1 : Int32) (a2 : Int32) : Nat × (Int32 × (BS × SS × US × Int32)) := xb (pX11_refuse (pX2_refusalOfSetting b a1 a2)) (0, (b, s9, u, kk)) (lt (pX11_saveState b s9 u kk) fun (u4 : BS × SS × US × Int32) => bd (pX2_changeSetting u4.1 a1 a2) fun (r6 : Int32) (u7 : BS) => (0, (r6, (u7, u4.2.1, u4.2.2.1, u4.2.2.2))))
def kX11_set (b : BS) (s9 : SS) (u : US) (kk : Int32) (a1 : Int32) (a2 : Int32) : Prop := (kX2_refusalOfSetting b a1 a2) ∧ (xk (pX11_refuse (pX2_refusalOfSetting b a1 a2)) ((kX11_saveState b s9 u kk) ∧ (lt (pX11_saveState b s9 u kk) fun (u4 : BS × SS × US × Int32) => kX2_changeSetting u4.1 a1 a2)))
abbrev rX11_set : Room := { frames := 7, cells := 4, slots := 24, locals := 124 }
set_option maxHeartbeats 4000000 in
set_option maxRecDepth 100000 in
theorem mX11_set (l : Launch) (hfl : l.stackTraces = false) (dC : Nat → ClassId) (dI : Nat → Nat → Nat) (cI cB cO cL : ClassId) (N0 : Nat) (sT eA : Nat → Nat) (qb : Nat → Nat) (qs : Nat → Nat) (qu : Nat → Nat) (qk : Nat → Nat) (qr : Nat → Nat) (qe : Nat → Nat) (qx : Nat → Nat) (qd : Nat → Nat) (b : BS) (s9 : SS) (u : US) (kk : Int32) (a1 : Int32) (a2 : Int32) (sz : Nat) (hsz : N0 ≤ sz) (hI : gD (fun _ => True) (bAd qb ++ sAd qs ++ uAd qu ++ kAd qk)) (hN9 : ∀ a ∈ (bAd qb ++ sAd qs ++ uAd qu ++ kAd qk : List Nat), N0 ≤ a) (hok : kX11_set b s9 u kk a1 a2) : vx_Met l yX11_set wsX11_set rX11_set (zP N0 sz sT eA (dC, dI) (tYS cI cB cO cL) (bw qb cI b ++ sw qs cI s9 ++ uw qu cI cB u ++ kw qk qb qr qe qs qu qx qd cI kk) [.ref (qk 0), .int a1, .int a2]) (yQi (dC, dI) (fun z9 : BS × SS × US × Int32 => bw qb cI z9.1 ++ sw qs cI z9.2.1 ++ uw qu cI cB z9.2.2.1 ++ kw qk qb qr qe qs qu qx qd cI z9.2.2.2) (va_A (bw qb cI b ++ sw qs cI s9 ++ uw qu cI cB u ++ kw qk qb qr qe qs qu qx qd cI kk) sz) (pX11_set b s9 u kk a1 a2)) (yX (dC, dI) (fun z9 : BS × SS × US × Int32 => bw qb cI z9.1 ++ sw qs cI z9.2.1 ++ uw qu cI cB z9.2.2.1 ++ kw qk qb qr qe qs qu qx qd cI z9.2.2.2) (va_A (bw qb cI b ++ sw qs cI s9 ++ uw qu cI cB u ++ kw qk qb qr qe qs qu qx qd cI kk) sz) (pX11_set b s9 u kk a1 a2)) 4 24 (va_A (bw qb cI b ++ sw qs cI s9 ++ uw qu cI cB u ++ kw qk qb qr qe qs qu qx qd cI kk) sz) := by
  refine zMet (cc := cX11_set) (maxL := 3) (ret := some .int) [(0, .ref (qk 0)), (1, .int a1), (2, .int a2)] (by decide) rfl rfl rfl ?_
  intro p e s mi below meth c C0 htab hz hK hF hP ls hl
  obtain ⟨hx, hb, hr, hml, hown, hts, hlocks⟩ := id C0
  have hown : s.vm.findClass RX11 = some mi.cls := hown
  have hE := hF.1
  subst hz
  have hA0 : ∀ q : Nat, s.heap.size ≤ q → (va_A (bw qb cI b ++ sw qs cI s9 ++ uw qu cI cB u ++ kw qk qb qr qe qs qu qx qd cI kk) s.heap.size) q := fun q h => Or.inr h
  have hN : ∀ q : Nat, (va_A (bw qb cI b ++ sw qs cI s9 ++ uw qu cI cB u ++ kw qk qb qr qe qs qu qx qd cI kk) s.heap.size) q → N0 ≤ q := vA_N (ws := bw qb cI b ++ sw qs cI s9 ++ uw qu cI cB u ++ kw qk qb qr qe qs qu qx qd cI kk) hN9 hsz
  have hH := hF.2.2.narrow hN
  have hS : va_S (va_A (bw qb cI b ++ sw qs cI s9 ++ uw qu cI cB u ++ kw qk qb qr qe qs qu qx qd cI kk) s.heap.size) s.heap s.heap [] := va_S.rf
  have hD : gD (va_A (bw qb cI b ++ sw qs cI s9 ++ uw qu cI cB u ++ kw qk qb qr qe qs qu qx qd cI kk) s.heap.size) (bAd qb ++ sAd qs ++ uAd qu ++ kAd qk) := gD_vA (ws := bw qb cI b ++ sw qs cI s9 ++ uw qu cI cB u ++ kw qk qb qr qe qs qu qx qd cI kk) hI
  have hP : va_P (dC, dI) vwCl (bw qb cI b ++ sw qs cI s9 ++ uw qu cI cB u ++ kw qk qb qr qe qs qu qx qd cI kk) s.heap := hP
  obtain ⟨F, hFe⟩ : ∃ F, F = pX11_set b s9 u kk a1 a2 := ⟨_, rfl⟩
  have hf := hFe
  have hin11 : ∀ w ∈ u_ws RX11 TX11 8, w ∈ wsX11_set := by decide +kernel
  have fl10 := hts (.fieldLink RX11 10 "ClickBench" "bench" "LClickBench$Bench;") (by decide +kernel)
  refine lv_aload_n hx hb dX11_set_0 rfl (lv_at hl 0 rfl) ?_
  refine va_get (D := (dC, dI)) (ci := 8) (v := .ref (qb 0)) (C := RX11) (T := TX11) (N := 8) hx hb hts hin11 hown hK hP 52 rfl rfl 0 (by decide) fl10 (fun _ h9 => h9) rfl dX11_set_1 ?_
  refine lv_iload_n hx hb dX11_set_4 rfl (lv_at hl 1 rfl) ?_
  refine lv_iload_n hx hb dX11_set_5 rfl (lv_at hl 2 rfl) ?_
  obtain ⟨h1, hok⟩ := hok
  have hPc := hP.sub (ws' := bw qb cI b) [0, 1, 2, 3, 4, 5, 6, 7, 8] rfl
  refine gro_i (va_runV (As := [.int a1, .int a2]) (rest := []) ⟨hx, hb, hml, hown, hts⟩ (mX2_refusalOfSetting l dC dI cI cB cO cL N0 sT eA qb b a1 a2  h1) (cwV 2 hts gX11_set_X2_refusalOfSetting rfl rfl rfl (by decide +kernel) ⟨Nat.le_of_ble_eq_true rfl, Nat.le_of_ble_eq_true rfl⟩) ⟨fP_blind, va_recv hK hPc (ci := 1) (q0 := 0) rfl rfl, fP_ok hPc hK hF hS hN⟩ rfl rfl hl.1 rfl (lv_room (Nat.le_of_ble_eq_true rfl)) dX11_set_6 ⟨Nat.le_of_ble_eq_true rfl, Nat.le_of_ble_eq_true rfl⟩) ?_
  refine x_callS (vx_runS (As := [.int (pX2_refusalOfSetting b a1 a2)]) (rest := []) ⟨hx, hb, hml, hown, hts⟩ (mX11_refuse l hfl dC dI cI cB cO cL N0 sT eA s.heap.size (Nat.le_trans hsz hS.1) (pX2_refusalOfSetting b a1 a2)) (va_cwS 1 hts gX11_set_X11_refuse rfl rfl rfl (by decide +kernel) ⟨Nat.le_of_ble_eq_true rfl, Nat.le_of_ble_eq_true rfl⟩) ⟨zP_blind, zP_ok va_P_nil hK hF hS hN⟩ rfl rfl hl.1 rfl (lv_room (Nat.le_of_ble_eq_true rfl)) dX11_set_9 ⟨Nat.le_of_ble_eq_true rfl, Nat.le_of_ble_eq_true rfl⟩) hP hS hA0 (fun hne q9 ce H locs hP hS hce hcv hcl => ?_) (fun h0 H locs hP hS => ?_)
  · exact x_out htab hlocks hne ((xb_1 hne hf).symm.trans hFe) hP hS hce hcv hcl rfl rfl
  · have hf := xb_0 h0 hf
    have hok := xk_0 h0 hok
    refine lv_aload_n hx hb dX11_set_12 rfl (lv_at hl 0 rfl) ?_
    obtain ⟨h2, hok⟩ := hok
    refine gms_v (va_runV (As := []) (rest := []) ⟨hx, hb, hml, hown, hts⟩ (mX11_saveState l dC dI cI cB cO cL qb qs qu qk qr qe qx qd b s9 u kk (gD_any hD) h2) (cwV 0 hts gX11_set_X11_saveState rfl rfl rfl (by decide +kernel) ⟨Nat.le_of_ble_eq_true rfl, Nat.le_of_ble_eq_true rfl⟩) ⟨cP_blind, va_recv hK hP (ci := 8) (q0 := 52) rfl rfl, cP_ok hP hK hE⟩ rfl rfl hl.1 rfl (lv_room (Nat.le_of_ble_eq_true rfl)) dX11_set_13 ⟨Nat.le_of_ble_eq_true rfl, Nat.le_of_ble_eq_true rfl⟩) hP (gD_va hD rfl) hS (fun u4 H locs hw hP hS => ?_)
    have hP : va_P (dC, dI) vwCl (bw qb cI u4.1 ++ sw qs cI u4.2.1 ++ uw qu cI cB u4.2.2.1 ++ kw qk qb qr qe qs qu qx qd cI u4.2.2.2) H := hP
    have hf := lt_eq hw hf
    have hok := lt_ok hw hok
    refine lv_aload_n hx hb dX11_set_16 rfl (lv_at hl 0 rfl) ?_
    refine va_get (D := (dC, dI)) (ci := 8) (v := .ref (qb 0)) (C := RX11) (T := TX11) (N := 8) hx hb hts hin11 hown hK hP 52 rfl rfl 0 (by decide) fl10 (fun _ h9 => h9) rfl dX11_set_17 ?_
    refine lv_iload_n hx hb dX11_set_20 rfl (lv_at hl 1 rfl) ?_
    refine lv_iload_n hx hb dX11_set_21 rfl (lv_at hl 2 rfl) ?_
    have h5 : kX2_changeSetting u4.1 a1 a2 := hok
    have hPc := hP.sub (ws' := bw qb cI u4.1) [0, 1, 2, 3, 4, 5, 6, 7, 8] rfl
    refine gmu_i (va_runV (As := [.int a1, .int a2]) (rest := []) ⟨hx, hb, hml, hown, hts⟩ (mX2_changeSetting l dC dI cI cB cO cL qb u4.1 a1 a2 (gD_subT hD [0, 1, 2, 3, 4, 5, 6, 7, 8] rfl rfl) h5) (cwV 2 hts gX11_set_X2_changeSetting rfl rfl rfl (by decide +kernel) ⟨Nat.le_of_ble_eq_true rfl, Nat.le_of_ble_eq_true rfl⟩) ⟨cP_blind, va_recv hK hPc (ci := 1) (q0 := 0) rfl rfl, cP_ok hPc hK hE⟩ rfl rfl hl.1 rfl (lv_room (Nat.le_of_ble_eq_true rfl)) dX11_set_22 ⟨Nat.le_of_ble_eq_true rfl, Nat.le_of_ble_eq_true rfl⟩) hP (gD_va hD rfl) hS [0, 1, 2, 3, 4, 5, 6, 7, 8] rfl (fun _ => rfl) (fun r6 u7 H locs hw hP hS => ?_)
    have hP : va_P (dC, dI) vwCl (bw qb cI u7 ++ sw qs cI u4.2.1 ++ uw qu cI cB u4.2.2.1 ++ kw qk qb qr qe qs qu qx qd cI u4.2.2.2) H := by
      have e09 : gpatch (bw qb cI u4.1 ++ sw qs cI u4.2.1 ++ uw qu cI cB u4.2.2.1 ++ kw qk qb qr qe qs qu qx qd cI u4.2.2.2) [0, 1, 2, 3, 4, 5, 6, 7, 8] (bw qb cI u7) = bw qb cI u7 ++ sw qs cI u4.2.1 ++ uw qu cI cB u4.2.2.1 ++ kw qk qb qr qe qs qu qx qd cI u4.2.2.2 := gpw_0_3 (bw qb cI u4.1) (bw qb cI u7) (sw qs cI u4.2.1) (uw qu cI cB u4.2.2.1) (kw qk qb qr qe qs qu qx qd cI u4.2.2.2) [0, 1, 2, 3, 4, 5, 6, 7, 8] rfl rfl
      exact (congrArg (fun z9 => va_P (dC, dI) vwCl z9 H) e09).mp hP
    have hf := bd_eq hw hf
    exact e_yi C0 (hf.symm.trans hFe) hP hS rfl rfl dX11_set_25
noncomputable def pX11_part_L34   (v1_34 : Int32) (v2_34 : Int32) (v3_34 : Int32) (t0_34 : Bool) (b_34 : BS) (kk_34 : Int32) : Nat × (Int32 × (BS × Int32)) := xb (pX11_requireRange t0_34) (0, (b_34, kk_34)) (if (pX2_tableOf b_34 v1_34) = 0 then (xb (pX11_requireThere (pX9_has 8 9 72 (b_34.1 4, b_34.2 0) v2_34)) (0, (b_34, kk_34)) ((0, (pX9_at 8 9 72 (b_34.1 4, b_34.2 0) v2_34 v3_34, (b_34, kk_34))))) else (if (pX2_tableOf b_34 v1_34) = 1 then (xb (pX11_requireThere (pX9_has 4 3 12 (b_34.1 5, b_34.2 1) v2_34)) (0, (b_34, kk_34)) ((0, (pX9_at 4 3 12 (b_34.1 5, b_34.2 1) v2_34 v3_34, (b_34, kk_34))))) else (if (pX2_tableOf b_34 v1_34) = 2 then (xb (pX11_requireThere (pX9_has 4 4 16 (b_34.1 6, b_34.2 2) v2_34)) (0, (b_34, kk_34)) ((0, (pX9_at 4 4 16 (b_34.1 6, b_34.2 2) v2_34 v3_34, (b_34, kk_34))))) else (xb (pX11_requireThere (pX9_has 7 1 7 (b_34.1 7, b_34.2 3) v2_34)) (0, (b_34, kk_34)) ((0, (pX9_at 7 1 7 (b_34.1 7, b_34.2 3) v2_34 v3_34, (b_34, kk_34))))))))
def kX11_part_L34   (v1_34 : Int32) (v2_34 : Int32) (v3_34 : Int32) (t0_34 : Bool) (b_34 : BS) (kk_34 : Int32) : Prop := xk (pX11_requireRange t0_34) (if (pX2_tableOf b_34 v1_34) = 0 then (xk (pX11_requireThere (pX9_has 8 9 72 (b_34.1 4, b_34.2 0) v2_34)) (kX9_at 8 9 72 (b_34.1 4, b_34.2 0) v2_34 v3_34)) else (if (pX2_tableOf b_34 v1_34) = 1 then (xk (pX11_requireThere (pX9_has 4 3 12 (b_34.1 5, b_34.2 1) v2_34)) (kX9_at 4 3 12 (b_34.1 5, b_34.2 1) v2_34 v3_34)) else (if (pX2_tableOf b_34 v1_34) = 2 then (xk (pX11_requireThere (pX9_has 4 4 16 (b_34.1 6, b_34.2 2) v2_34)) (kX9_at 4 4 16 (b_34.1 6, b_34.2 2) v2_34 v3_34)) else (((pX2_tableOf b_34 v1_34) = 3) ∧ (xk (pX11_requireThere (pX9_has 7 1 7 (b_34.1 7, b_34.2 3) v2_34)) (kX9_at 7 1 7 (b_34.1 7, b_34.2 3) v2_34 v3_34))))))
noncomputable def pX11_part_L33   (v1_33 : Int32) (v2_33 : Int32) (v3_33 : Int32) (b_33 : BS) (kk_33 : Int32) : Nat × (Int32 × (BS × Int32)) := pX11_part_L34 v1_33 v2_33 v3_33 false b_33 kk_33
def kX11_part_L33   (v1_33 : Int32) (v2_33 : Int32) (v3_33 : Int32) (b_33 : BS) (kk_33 : Int32) : Prop := kX11_part_L34 v1_33 v2_33 v3_33 false b_33 kk_33
noncomputable def pX11_part (b : BS) (kk : Int32) (a1 : Int32) (a2 : Int32) (a3 : Int32) : Nat × (Int32 × (BS × Int32)) := if (pX11_isBetween a1 0 (4 - 1)) = true then (if (pX11_isBetween a3 0 ((sL0.getD a1.toNatClampNeg 0) - 1)) = true then (pX11_part_L34 a1 a2 a3 true b kk) else (pX11_part_L33 a1 a2 a3 b kk)) else (pX11_part_L33 a1 a2 a3 b kk)
def kX11_part (b : BS) (kk : Int32) (a1 : Int32) (a2 : Int32) (a3 : Int32) : Prop := if (pX11_isBetween a1 0 (4 - 1)) = true then ((vp_in a1 4) ∧ (if (pX11_isBetween a3 0 ((sL0.getD a1.toNatClampNeg 0) - 1)) = true then (kX11_part_L34 a1 a2 a3 true b kk) else (kX11_part_L33 a1 a2 a3 b kk))) else (kX11_part_L33 a1 a2 a3 b kk)
abbrev rX11_part : Room := { frames := 8, cells := 4, slots := 24, locals := 132 }
set_option maxHeartbeats 4000000 in
set_option maxRecDepth 100000 in
theorem mX11_part (l : Launch) (hfl : l.stackTraces = false) (dC : Nat → ClassId) (dI : Nat → Nat → Nat) (cI cB cO cL : ClassId) (N0 : Nat) (sT eA : Nat → Nat) (qb : Nat → Nat) (qk : Nat → Nat) (qr : Nat → Nat) (qe : Nat → Nat) (qs : Nat → Nat) (qu : Nat → Nat) (qx : Nat → Nat) (qd : Nat → Nat) (b : BS) (kk : Int32) (a1 : Int32) (a2 : Int32) (a3 : Int32) (sz : Nat) (hsz : N0 ≤ sz) (hI : gD (fun _ => True) (bAd qb ++ kAd qk)) (hN9 : ∀ a ∈ (bAd qb ++ kAd qk : List Nat), N0 ≤ a) (hok : kX11_part b kk a1 a2 a3) : vx_Met l yX11_part wsX11_part rX11_part (zP N0 sz sT eA (dC, dI) (tYS cI cB cO cL) (bw qb cI b ++ kw qk qb qr qe qs qu qx qd cI kk) [.ref (qk 0), .int a1, .int a2, .int a3]) (yQi (dC, dI) (fun z9 : BS × Int32 => bw qb cI z9.1 ++ kw qk qb qr qe qs qu qx qd cI z9.2) (va_A (bw qb cI b ++ kw qk qb qr qe qs qu qx qd cI kk) sz) (pX11_part b kk a1 a2 a3)) (yX (dC, dI) (fun z9 : BS × Int32 => bw qb cI z9.1 ++ kw qk qb qr qe qs qu qx qd cI z9.2) (va_A (bw qb cI b ++ kw qk qb qr qe qs qu qx qd cI kk) sz) (pX11_part b kk a1 a2 a3)) 4 24 (va_A (bw qb cI b ++ kw qk qb qr qe qs qu qx qd cI kk) sz) := by
  refine zMet (cc := cX11_part) (maxL := 5) (ret := some .int) [(0, .ref (qk 0)), (1, .int a1), (2, .int a2), (3, .int a3)] (by decide) rfl rfl rfl ?_
  intro p e s mi below meth c C0 htab hz hK hF hP ls hl
  obtain ⟨hx, hb, hr, hml, hown, hts, hlocks⟩ := id C0
  have hown : s.vm.findClass RX11 = some mi.cls := hown
  have hE := hF.1
  subst hz
  have hA0 : ∀ q : Nat, s.heap.size ≤ q → (va_A (bw qb cI b ++ kw qk qb qr qe qs qu qx qd cI kk) s.heap.size) q := fun q h => Or.inr h
  have hN : ∀ q : Nat, (va_A (bw qb cI b ++ kw qk qb qr qe qs qu qx qd cI kk) s.heap.size) q → N0 ≤ q := vA_N (ws := bw qb cI b ++ kw qk qb qr qe qs qu qx qd cI kk) hN9 hsz
  have hH := hF.2.2.narrow hN
  have hS : va_S (va_A (bw qb cI b ++ kw qk qb qr qe qs qu qx qd cI kk) s.heap.size) s.heap s.heap [] := va_S.rf
  have hD : gD (va_A (bw qb cI b ++ kw qk qb qr qe qs qu qx qd cI kk) s.heap.size) (bAd qb ++ kAd qk) := gD_vA (ws := bw qb cI b ++ kw qk qb qr qe qs qu qx qd cI kk) hI
  have hP : va_P (dC, dI) vwCl (bw qb cI b ++ kw qk qb qr qe qs qu qx qd cI kk) s.heap := hP
  obtain ⟨F, hFe⟩ : ∃ F, F = pX11_part b kk a1 a2 a3 := ⟨_, rfl⟩
  have hf := hFe
  have hin11 : ∀ w ∈ u_ws RX11 TX11 8, w ∈ wsX11_part := by decide +kernel
  have fl208 := hts (.fieldLink RX11 208 "ClickBench" "PARTS" "[I") (by decide +kernel)
  have fl10 := hts (.fieldLink RX11 10 "ClickBench" "bench" "LClickBench$Bench;") (by decide +kernel)
  have J_34 : ∀ (v1_34 : Int32) (v2_34 : Int32) (v3_34 : Int32) (t0_34 : Bool) (b_34 : BS) (kk_34 : Int32) (H : Heap) (locs : List Loc), va_P (dC, dI) vwCl (bw qb cI b_34 ++ kw qk qb qr qe qs qu qx qd cI kk_34) H → va_S (va_A (bw qb cI b ++ kw qk qb qr qe qs qu qx qd cI kk) s.heap.size) s.heap H locs → ∀ ls : Array Slot, lv_has ls 5 [(0, .ref (qk 0)), (1, .int v1_34), (2, .int v2_34), (3, .int v3_34)] → F = pX11_part_L34 v1_34 v2_34 v3_34 t0_34 b_34 kk_34 → kX11_part_L34 v1_34 v2_34 v3_34 t0_34 b_34 kk_34 → W p l e rX11_part s mi ([.ref (qk 0), .int a1, .int a2, .int a3] : List Value).toArray below meth c H locs 0 0 (vx_MQ below (yQi (dC, dI) (fun z9 : BS × Int32 => bw qb cI z9.1 ++ kw qk qb qr qe qs qu qx qd cI z9.2) (va_A (bw qb cI b ++ kw qk qb qr qe qs qu qx qd cI kk) s.heap.size) (pX11_part b kk a1 a2 a3)) (yX (dC, dI) (fun z9 : BS × Int32 => bw qb cI z9.1 ++ kw qk qb qr qe qs qu qx qd cI z9.2) (va_A (bw qb cI b ++ kw qk qb qr qe qs qu qx qd cI kk) s.heap.size) (pX11_part b kk a1 a2 a3)) ([.ref (qk 0), .int a1, .int a2, .int a3] : List Value).toArray s 4 24 (va_A (bw qb cI b ++ kw qk qb qr qe qs qu qx qd cI kk) s.heap.size)) (F0 mi 34 ls [.int (bz t0_34)]) := by
    intro v1_34 v2_34 v3_34 t0_34 b_34 kk_34 H locs hP hS ls hl hf hok
    refine x_callS (vx_runS (As := [.int (bz t0_34)]) (rest := []) ⟨hx, hb, hml, hown, hts⟩ (mX11_requireRange l hfl dC dI cI cB cO cL N0 sT eA H.size (Nat.le_trans hsz hS.1) t0_34) (va_cwS 1 hts gX11_part_X11_requireRange rfl rfl rfl (by decide +kernel) ⟨Nat.le_of_ble_eq_true rfl, Nat.le_of_ble_eq_true rfl⟩) ⟨zP_blind, zP_ok va_P_nil hK hF hS hN⟩ rfl rfl hl.1 rfl (lv_room (Nat.le_of_ble_eq_true rfl)) dX11_part_34 ⟨Nat.le_of_ble_eq_true rfl, Nat.le_of_ble_eq_true rfl⟩) hP hS hA0 (fun hne q9 ce H locs hP hS hce hcv hcl => ?_) (fun h0 H locs hP hS => ?_)
    · exact x_out htab hlocks hne ((xb_1 hne hf).symm.trans hFe) hP hS hce hcv hcl rfl rfl
    · have hf := xb_0 h0 hf
      have hok := xk_0 h0 hok
      refine lv_aload_n hx hb dX11_part_37 rfl (lv_at hl 0 rfl) ?_
      refine va_get (D := (dC, dI)) (ci := 8) (v := .ref (qb 0)) (C := RX11) (T := TX11) (N := 8) hx hb hts hin11 hown hK hP 9 rfl rfl 0 (by decide) fl10 (fun _ h9 => h9) rfl dX11_part_38 ?_
      refine lv_iload_n hx hb dX11_part_41 rfl (lv_at hl 1 rfl) ?_
      have hPc := hP.sub (ws' := bw qb cI b_34) [0, 1, 2, 3, 4, 5, 6, 7, 8] rfl
      refine va_csr (va_Run.run (va_runV (As := [.int v1_34]) (rest := []) ⟨hx, hb, hml, hown, hts⟩ (mX2_tableOf l dC dI cI cB cO cL qb b_34 v1_34  ) (cwV 1 hts gX11_part_X2_tableOf rfl rfl rfl (by decide +kernel) ⟨Nat.le_of_ble_eq_true rfl, Nat.le_of_ble_eq_true rfl⟩) ⟨cP_blind, va_recv hK hPc (ci := 1) (q0 := 0) rfl rfl, cP_ok hPc hK hE⟩ rfl rfl hl.1 rfl (lv_room (Nat.le_of_ble_eq_true rfl)) dX11_part_42 ⟨Nat.le_of_ble_eq_true rfl, Nat.le_of_ble_eq_true rfl⟩)) (fun k2 hk2 => ?_)
      by_cases c3 : (pX2_tableOf b_34 v1_34) = 0
      · have hf := it_eq c3 hf
        have hok := it_ok c3 hok
        obtain rfl : k2 = 0 := hk2.trans c3
        refine lv_astore (lv' := [(4, .ref (qb 1)), (0, .ref (qk 0)), (1, .int v1_34), (2, .int v2_34), (3, .int v3_34)]) hx hb dX11_part_45 hl (by decide) rfl (fun ls hl => ?_)
        refine lv_aload hx hb dX11_part_47 (lv_at hl 0 rfl) ?_
        refine lv_iload_n hx hb dX11_part_49 rfl (lv_at hl 3 rfl) ?_
        have hPc := hP.sub (ws' := tw (tad (qb 1) (qb 2)) cI 8 9 72 (b_34.1 4, b_34.2 0)) [1, 2] rfl
        refine gro_i (va_runV (As := [.int v2_34]) (rest := []) ⟨hx, hb, hml, hown, hts⟩ (mX9_has l dC dI cI cB cO cL (tad (qb 1) (qb 2)) 8 9 72 (b_34.1 4, b_34.2 0) v2_34  ) (cwV 1 hts gX11_part_X9_has rfl rfl rfl (by decide +kernel) ⟨Nat.le_of_ble_eq_true rfl, Nat.le_of_ble_eq_true rfl⟩) ⟨cP_blind, va_recv hK hPc (ci := 6) (q0 := 0) rfl rfl, cP_ok hPc hK hE⟩ rfl rfl hl.1 rfl (lv_room (Nat.le_of_ble_eq_true rfl)) dX11_part_50 ⟨Nat.le_of_ble_eq_true rfl, Nat.le_of_ble_eq_true rfl⟩) ?_
        refine x_callS (vx_runS (As := [.int (bz (pX9_has 8 9 72 (b_34.1 4, b_34.2 0) v2_34))]) (rest := []) ⟨hx, hb, hml, hown, hts⟩ (mX11_requireThere l hfl dC dI cI cB cO cL N0 sT eA H.size (Nat.le_trans hsz hS.1) (pX9_has 8 9 72 (b_34.1 4, b_34.2 0) v2_34)) (va_cwS 1 hts gX11_part_X11_requireThere rfl rfl rfl (by decide +kernel) ⟨Nat.le_of_ble_eq_true rfl, Nat.le_of_ble_eq_true rfl⟩) ⟨zP_blind, zP_ok va_P_nil hK hF hS hN⟩ rfl rfl hl.1 rfl (lv_room (Nat.le_of_ble_eq_true rfl)) dX11_part_53 ⟨Nat.le_of_ble_eq_true rfl, Nat.le_of_ble_eq_true rfl⟩) hP hS hA0 (fun hne q9 ce H locs hP hS hce hcv hcl => ?_) (fun h0 H locs hP hS => ?_)
        · exact x_out htab hlocks hne ((xb_1 hne hf).symm.trans hFe) hP hS hce hcv hcl rfl rfl
        · have hf := xb_0 h0 hf
          have hok := xk_0 h0 hok
          refine lv_aload hx hb dX11_part_56 (lv_at hl 0 rfl) ?_
          refine lv_iload_n hx hb dX11_part_58 rfl (lv_at hl 3 rfl) ?_
          refine lv_iload_n hx hb dX11_part_59 rfl (lv_at hl 4 rfl) ?_
          have h4 : kX9_at 8 9 72 (b_34.1 4, b_34.2 0) v2_34 v3_34 := hok
          have hPc := hP.sub (ws' := tw (tad (qb 1) (qb 2)) cI 8 9 72 (b_34.1 4, b_34.2 0)) [1, 2] rfl
          refine gro_i (va_runV (As := [.int v2_34, .int v3_34]) (rest := []) ⟨hx, hb, hml, hown, hts⟩ (mX9_at l dC dI cI cB cO cL (tad (qb 1) (qb 2)) 8 9 72 (b_34.1 4, b_34.2 0) v2_34 v3_34  h4) (cwV 2 hts gX11_part_X9_at rfl rfl rfl (by decide +kernel) ⟨Nat.le_of_ble_eq_true rfl, Nat.le_of_ble_eq_true rfl⟩) ⟨cP_blind, va_recv hK hPc (ci := 6) (q0 := 0) rfl rfl, cP_ok hPc hK hE⟩ rfl rfl hl.1 rfl (lv_room (Nat.le_of_ble_eq_true rfl)) dX11_part_60 ⟨Nat.le_of_ble_eq_true rfl, Nat.le_of_ble_eq_true rfl⟩) ?_
          exact e_yi C0 (hf.symm.trans hFe) hP hS rfl rfl dX11_part_63
      · have hf := ie_eq c3 hf
        have hok := ie_ok c3 hok
        by_cases c5 : (pX2_tableOf b_34 v1_34) = 1
        · have hf := it_eq c5 hf
          have hok := it_ok c5 hok
          obtain rfl : k2 = 1 := hk2.trans c5
          refine lv_astore (lv' := [(4, .ref (qb 3)), (0, .ref (qk 0)), (1, .int v1_34), (2, .int v2_34), (3, .int v3_34)]) hx hb dX11_part_45 hl (by decide) rfl (fun ls hl => ?_)
          refine lv_aload hx hb dX11_part_47 (lv_at hl 0 rfl) ?_
          refine lv_iload_n hx hb dX11_part_49 rfl (lv_at hl 3 rfl) ?_
          have hPc := hP.sub (ws' := tw (tad (qb 3) (qb 4)) cI 4 3 12 (b_34.1 5, b_34.2 1)) [3, 4] rfl
          refine gro_i (va_runV (As := [.int v2_34]) (rest := []) ⟨hx, hb, hml, hown, hts⟩ (mX9_has l dC dI cI cB cO cL (tad (qb 3) (qb 4)) 4 3 12 (b_34.1 5, b_34.2 1) v2_34  ) (cwV 1 hts gX11_part_X9_has rfl rfl rfl (by decide +kernel) ⟨Nat.le_of_ble_eq_true rfl, Nat.le_of_ble_eq_true rfl⟩) ⟨cP_blind, va_recv hK hPc (ci := 6) (q0 := 0) rfl rfl, cP_ok hPc hK hE⟩ rfl rfl hl.1 rfl (lv_room (Nat.le_of_ble_eq_true rfl)) dX11_part_50 ⟨Nat.le_of_ble_eq_true rfl, Nat.le_of_ble_eq_true rfl⟩) ?_
          refine x_callS (vx_runS (As := [.int (bz (pX9_has 4 3 12 (b_34.1 5, b_34.2 1) v2_34))]) (rest := []) ⟨hx, hb, hml, hown, hts⟩ (mX11_requireThere l hfl dC dI cI cB cO cL N0 sT eA H.size (Nat.le_trans hsz hS.1) (pX9_has 4 3 12 (b_34.1 5, b_34.2 1) v2_34)) (va_cwS 1 hts gX11_part_X11_requireThere rfl rfl rfl (by decide +kernel) ⟨Nat.le_of_ble_eq_true rfl, Nat.le_of_ble_eq_true rfl⟩) ⟨zP_blind, zP_ok va_P_nil hK hF hS hN⟩ rfl rfl hl.1 rfl (lv_room (Nat.le_of_ble_eq_true rfl)) dX11_part_53 ⟨Nat.le_of_ble_eq_true rfl, Nat.le_of_ble_eq_true rfl⟩) hP hS hA0 (fun hne q9 ce H locs hP hS hce hcv hcl => ?_) (fun h0 H locs hP hS => ?_)
          · exact x_out htab hlocks hne ((xb_1 hne hf).symm.trans hFe) hP hS hce hcv hcl rfl rfl
          · have hf := xb_0 h0 hf
            have hok := xk_0 h0 hok
            refine lv_aload hx hb dX11_part_56 (lv_at hl 0 rfl) ?_
            refine lv_iload_n hx hb dX11_part_58 rfl (lv_at hl 3 rfl) ?_
            refine lv_iload_n hx hb dX11_part_59 rfl (lv_at hl 4 rfl) ?_
            have h6 : kX9_at 4 3 12 (b_34.1 5, b_34.2 1) v2_34 v3_34 := hok
            have hPc := hP.sub (ws' := tw (tad (qb 3) (qb 4)) cI 4 3 12 (b_34.1 5, b_34.2 1)) [3, 4] rfl
            refine gro_i (va_runV (As := [.int v2_34, .int v3_34]) (rest := []) ⟨hx, hb, hml, hown, hts⟩ (mX9_at l dC dI cI cB cO cL (tad (qb 3) (qb 4)) 4 3 12 (b_34.1 5, b_34.2 1) v2_34 v3_34  h6) (cwV 2 hts gX11_part_X9_at rfl rfl rfl (by decide +kernel) ⟨Nat.le_of_ble_eq_true rfl, Nat.le_of_ble_eq_true rfl⟩) ⟨cP_blind, va_recv hK hPc (ci := 6) (q0 := 0) rfl rfl, cP_ok hPc hK hE⟩ rfl rfl hl.1 rfl (lv_room (Nat.le_of_ble_eq_true rfl)) dX11_part_60 ⟨Nat.le_of_ble_eq_true rfl, Nat.le_of_ble_eq_true rfl⟩) ?_
            exact e_yi C0 (hf.symm.trans hFe) hP hS rfl rfl dX11_part_63
        · have hf := ie_eq c5 hf
          have hok := ie_ok c5 hok
          by_cases c7 : (pX2_tableOf b_34 v1_34) = 2
          · have hf := it_eq c7 hf
            have hok := it_ok c7 hok
            obtain rfl : k2 = 2 := hk2.trans c7
            refine lv_astore (lv' := [(4, .ref (qb 5)), (0, .ref (qk 0)), (1, .int v1_34), (2, .int v2_34), (3, .int v3_34)]) hx hb dX11_part_45 hl (by decide) rfl (fun ls hl => ?_)
            refine lv_aload hx hb dX11_part_47 (lv_at hl 0 rfl) ?_
            refine lv_iload_n hx hb dX11_part_49 rfl (lv_at hl 3 rfl) ?_
            have hPc := hP.sub (ws' := tw (tad (qb 5) (qb 6)) cI 4 4 16 (b_34.1 6, b_34.2 2)) [5, 6] rfl
            refine gro_i (va_runV (As := [.int v2_34]) (rest := []) ⟨hx, hb, hml, hown, hts⟩ (mX9_has l dC dI cI cB cO cL (tad (qb 5) (qb 6)) 4 4 16 (b_34.1 6, b_34.2 2) v2_34  ) (cwV 1 hts gX11_part_X9_has rfl rfl rfl (by decide +kernel) ⟨Nat.le_of_ble_eq_true rfl, Nat.le_of_ble_eq_true rfl⟩) ⟨cP_blind, va_recv hK hPc (ci := 6) (q0 := 0) rfl rfl, cP_ok hPc hK hE⟩ rfl rfl hl.1 rfl (lv_room (Nat.le_of_ble_eq_true rfl)) dX11_part_50 ⟨Nat.le_of_ble_eq_true rfl, Nat.le_of_ble_eq_true rfl⟩) ?_
            refine x_callS (vx_runS (As := [.int (bz (pX9_has 4 4 16 (b_34.1 6, b_34.2 2) v2_34))]) (rest := []) ⟨hx, hb, hml, hown, hts⟩ (mX11_requireThere l hfl dC dI cI cB cO cL N0 sT eA H.size (Nat.le_trans hsz hS.1) (pX9_has 4 4 16 (b_34.1 6, b_34.2 2) v2_34)) (va_cwS 1 hts gX11_part_X11_requireThere rfl rfl rfl (by decide +kernel) ⟨Nat.le_of_ble_eq_true rfl, Nat.le_of_ble_eq_true rfl⟩) ⟨zP_blind, zP_ok va_P_nil hK hF hS hN⟩ rfl rfl hl.1 rfl (lv_room (Nat.le_of_ble_eq_true rfl)) dX11_part_53 ⟨Nat.le_of_ble_eq_true rfl, Nat.le_of_ble_eq_true rfl⟩) hP hS hA0 (fun hne q9 ce H locs hP hS hce hcv hcl => ?_) (fun h0 H locs hP hS => ?_)
            · exact x_out htab hlocks hne ((xb_1 hne hf).symm.trans hFe) hP hS hce hcv hcl rfl rfl
            · have hf := xb_0 h0 hf
              have hok := xk_0 h0 hok
              refine lv_aload hx hb dX11_part_56 (lv_at hl 0 rfl) ?_
              refine lv_iload_n hx hb dX11_part_58 rfl (lv_at hl 3 rfl) ?_
              refine lv_iload_n hx hb dX11_part_59 rfl (lv_at hl 4 rfl) ?_
              have h8 : kX9_at 4 4 16 (b_34.1 6, b_34.2 2) v2_34 v3_34 := hok
              have hPc := hP.sub (ws' := tw (tad (qb 5) (qb 6)) cI 4 4 16 (b_34.1 6, b_34.2 2)) [5, 6] rfl
              refine gro_i (va_runV (As := [.int v2_34, .int v3_34]) (rest := []) ⟨hx, hb, hml, hown, hts⟩ (mX9_at l dC dI cI cB cO cL (tad (qb 5) (qb 6)) 4 4 16 (b_34.1 6, b_34.2 2) v2_34 v3_34  h8) (cwV 2 hts gX11_part_X9_at rfl rfl rfl (by decide +kernel) ⟨Nat.le_of_ble_eq_true rfl, Nat.le_of_ble_eq_true rfl⟩) ⟨cP_blind, va_recv hK hPc (ci := 6) (q0 := 0) rfl rfl, cP_ok hPc hK hE⟩ rfl rfl hl.1 rfl (lv_room (Nat.le_of_ble_eq_true rfl)) dX11_part_60 ⟨Nat.le_of_ble_eq_true rfl, Nat.le_of_ble_eq_true rfl⟩) ?_
              exact e_yi C0 (hf.symm.trans hFe) hP hS rfl rfl dX11_part_63
          · have hf := ie_eq c7 hf
            have hok := ie_ok c7 hok
            obtain ⟨c9, hok⟩ := hok
            obtain rfl : k2 = 3 := hk2.trans c9
            refine lv_astore (lv' := [(4, .ref (qb 7)), (0, .ref (qk 0)), (1, .int v1_34), (2, .int v2_34), (3, .int v3_34)]) hx hb dX11_part_45 hl (by decide) rfl (fun ls hl => ?_)
            refine lv_aload hx hb dX11_part_47 (lv_at hl 0 rfl) ?_
            refine lv_iload_n hx hb dX11_part_49 rfl (lv_at hl 3 rfl) ?_
            have hPc := hP.sub (ws' := tw (tad (qb 7) (qb 8)) cI 7 1 7 (b_34.1 7, b_34.2 3)) [7, 8] rfl
            refine gro_i (va_runV (As := [.int v2_34]) (rest := []) ⟨hx, hb, hml, hown, hts⟩ (mX9_has l dC dI cI cB cO cL (tad (qb 7) (qb 8)) 7 1 7 (b_34.1 7, b_34.2 3) v2_34  ) (cwV 1 hts gX11_part_X9_has rfl rfl rfl (by decide +kernel) ⟨Nat.le_of_ble_eq_true rfl, Nat.le_of_ble_eq_true rfl⟩) ⟨cP_blind, va_recv hK hPc (ci := 6) (q0 := 0) rfl rfl, cP_ok hPc hK hE⟩ rfl rfl hl.1 rfl (lv_room (Nat.le_of_ble_eq_true rfl)) dX11_part_50 ⟨Nat.le_of_ble_eq_true rfl, Nat.le_of_ble_eq_true rfl⟩) ?_
            refine x_callS (vx_runS (As := [.int (bz (pX9_has 7 1 7 (b_34.1 7, b_34.2 3) v2_34))]) (rest := []) ⟨hx, hb, hml, hown, hts⟩ (mX11_requireThere l hfl dC dI cI cB cO cL N0 sT eA H.size (Nat.le_trans hsz hS.1) (pX9_has 7 1 7 (b_34.1 7, b_34.2 3) v2_34)) (va_cwS 1 hts gX11_part_X11_requireThere rfl rfl rfl (by decide +kernel) ⟨Nat.le_of_ble_eq_true rfl, Nat.le_of_ble_eq_true rfl⟩) ⟨zP_blind, zP_ok va_P_nil hK hF hS hN⟩ rfl rfl hl.1 rfl (lv_room (Nat.le_of_ble_eq_true rfl)) dX11_part_53 ⟨Nat.le_of_ble_eq_true rfl, Nat.le_of_ble_eq_true rfl⟩) hP hS hA0 (fun hne q9 ce H locs hP hS hce hcv hcl => ?_) (fun h0 H locs hP hS => ?_)
            · exact x_out htab hlocks hne ((xb_1 hne hf).symm.trans hFe) hP hS hce hcv hcl rfl rfl
            · have hf := xb_0 h0 hf
              have hok := xk_0 h0 hok
              refine lv_aload hx hb dX11_part_56 (lv_at hl 0 rfl) ?_
              refine lv_iload_n hx hb dX11_part_58 rfl (lv_at hl 3 rfl) ?_
              refine lv_iload_n hx hb dX11_part_59 rfl (lv_at hl 4 rfl) ?_
              have h10 : kX9_at 7 1 7 (b_34.1 7, b_34.2 3) v2_34 v3_34 := hok
              have hPc := hP.sub (ws' := tw (tad (qb 7) (qb 8)) cI 7 1 7 (b_34.1 7, b_34.2 3)) [7, 8] rfl
              refine gro_i (va_runV (As := [.int v2_34, .int v3_34]) (rest := []) ⟨hx, hb, hml, hown, hts⟩ (mX9_at l dC dI cI cB cO cL (tad (qb 7) (qb 8)) 7 1 7 (b_34.1 7, b_34.2 3) v2_34 v3_34  h10) (cwV 2 hts gX11_part_X9_at rfl rfl rfl (by decide +kernel) ⟨Nat.le_of_ble_eq_true rfl, Nat.le_of_ble_eq_true rfl⟩) ⟨cP_blind, va_recv hK hPc (ci := 6) (q0 := 0) rfl rfl, cP_ok hPc hK hE⟩ rfl rfl hl.1 rfl (lv_room (Nat.le_of_ble_eq_true rfl)) dX11_part_60 ⟨Nat.le_of_ble_eq_true rfl, Nat.le_of_ble_eq_true rfl⟩) ?_
              exact e_yi C0 (hf.symm.trans hFe) hP hS rfl rfl dX11_part_63
  have J_33 : ∀ (v1_33 : Int32) (v2_33 : Int32) (v3_33 : Int32) (b_33 : BS) (kk_33 : Int32) (H : Heap) (locs : List Loc), va_P (dC, dI) vwCl (bw qb cI b_33 ++ kw qk qb qr qe qs qu qx qd cI kk_33) H → va_S (va_A (bw qb cI b ++ kw qk qb qr qe qs qu qx qd cI kk) s.heap.size) s.heap H locs → ∀ ls : Array Slot, lv_has ls 5 [(0, .ref (qk 0)), (1, .int v1_33), (2, .int v2_33), (3, .int v3_33)] → F = pX11_part_L33 v1_33 v2_33 v3_33 b_33 kk_33 → kX11_part_L33 v1_33 v2_33 v3_33 b_33 kk_33 → W p l e rX11_part s mi ([.ref (qk 0), .int a1, .int a2, .int a3] : List Value).toArray below meth c H locs 0 0 (vx_MQ below (yQi (dC, dI) (fun z9 : BS × Int32 => bw qb cI z9.1 ++ kw qk qb qr qe qs qu qx qd cI z9.2) (va_A (bw qb cI b ++ kw qk qb qr qe qs qu qx qd cI kk) s.heap.size) (pX11_part b kk a1 a2 a3)) (yX (dC, dI) (fun z9 : BS × Int32 => bw qb cI z9.1 ++ kw qk qb qr qe qs qu qx qd cI z9.2) (va_A (bw qb cI b ++ kw qk qb qr qe qs qu qx qd cI kk) s.heap.size) (pX11_part b kk a1 a2 a3)) ([.ref (qk 0), .int a1, .int a2, .int a3] : List Value).toArray s 4 24 (va_A (bw qb cI b ++ kw qk qb qr qe qs qu qx qd cI kk) s.heap.size)) (F0 mi 33 ls []) := by
    intro v1_33 v2_33 v3_33 b_33 kk_33 H locs hP hS ls hl hf hok
    refine lv_iconst (v := 0) hx hb dX11_part_33 (by decide) ?_
    exact J_34 v1_33 v2_33 v3_33 false b_33 kk_33 _ _ hP hS _ (lv_sub hl [0, 1, 2, 3] rfl) hf hok
  refine lv_iload_n hx hb dX11_part_0 rfl (lv_at hl 1 rfl) ?_
  refine lv_iconst (v := 0) hx hb dX11_part_1 (by decide) ?_
  refine va_gets hx hb hH.1.1 hS hown fl208 (fun _ h9 => h9) dX11_part_2 ?_
  refine va_tlen hx hb hH.1.2 hS (v := 4) rfl dX11_part_5 ?_
  refine lv_iconst (v := 1) hx hb dX11_part_6 (by decide) ?_
  refine lv_isub hx hb dX11_part_7 ?_
  refine gro_i (va_runS (As := [.int a1, .int 0, .int (4 - 1)]) (rest := []) ⟨hx, hb, hml, hown, hts⟩ (mX11_isBetween l dC dI cI cB cO cL  a1 0 (4 - 1)  ) (va_cwS 3 hts gX11_part_X11_isBetween rfl rfl rfl (by decide +kernel) ⟨Nat.le_of_ble_eq_true rfl, Nat.le_of_ble_eq_true rfl⟩) ⟨cP_blind, cP_ok va_P_nil hK hE⟩ rfl rfl hl.1 rfl (lv_room (Nat.le_of_ble_eq_true rfl)) dX11_part_8 ⟨Nat.le_of_ble_eq_true rfl, Nat.le_of_ble_eq_true rfl⟩) ?_
  refine lv_if_eq (tgt := 33) hx hb dX11_part_11 (by decide) (fun c1 => ?_) (fun c1 => ?_)
  · have c1 := bz_f c1
    have hf := ie_eq c1 hf
    have hok := ie_ok c1 hok
    exact J_33 a1 a2 a3 b kk _ _ hP hS _ (lv_sub hl [0, 1, 2, 3] rfl) hf hok
  · have c1 := bz_t c1
    have hf := it_eq c1 hf
    have hok := it_ok c1 hok
    refine lv_iload_n hx hb dX11_part_14 rfl (lv_at hl 3 rfl) ?_
    refine lv_iconst (v := 0) hx hb dX11_part_15 (by decide) ?_
    refine va_gets hx hb hH.1.1 hS hown fl208 (fun _ h9 => h9) dX11_part_16 ?_
    refine lv_iload_n hx hb dX11_part_19 rfl (lv_at hl 1 rfl) ?_
    obtain ⟨h12, hok⟩ := hok
    refine va_ti (v := .int (sL0.getD a1.toNatClampNeg 0)) hx hb hH.1.2 hS h12 rfl dX11_part_20 ?_
    refine lv_iconst (v := 1) hx hb dX11_part_21 (by decide) ?_
    refine lv_isub hx hb dX11_part_22 ?_
    refine gro_i (va_runS (As := [.int a3, .int 0, .int ((sL0.getD a1.toNatClampNeg 0) - 1)]) (rest := []) ⟨hx, hb, hml, hown, hts⟩ (mX11_isBetween l dC dI cI cB cO cL  a3 0 ((sL0.getD a1.toNatClampNeg 0) - 1)  ) (va_cwS 3 hts gX11_part_X11_isBetween rfl rfl rfl (by decide +kernel) ⟨Nat.le_of_ble_eq_true rfl, Nat.le_of_ble_eq_true rfl⟩) ⟨cP_blind, cP_ok va_P_nil hK hE⟩ rfl rfl hl.1 rfl (lv_room (Nat.le_of_ble_eq_true rfl)) dX11_part_23 ⟨Nat.le_of_ble_eq_true rfl, Nat.le_of_ble_eq_true rfl⟩) ?_
    refine lv_if_eq (tgt := 33) hx hb dX11_part_26 (by decide) (fun c11 => ?_) (fun c11 => ?_)
    · have c11 := bz_f c11
      have hf := ie_eq c11 hf
      have hok := ie_ok c11 hok
      exact J_33 a1 a2 a3 b kk _ _ hP hS _ (lv_sub hl [0, 1, 2, 3] rfl) hf hok
    · have c11 := bz_t c11
      have hf := it_eq c11 hf
      have hok := it_ok c11 hok
      refine lv_iconst (v := 1) hx hb dX11_part_29 (by decide) ?_
      refine lv_goto (tgt := 34) hx hb dX11_part_30 (by decide) ?_
      exact J_34 a1 a2 a3 true b kk _ _ hP hS _ (lv_sub hl [0, 1, 2, 3] rfl) hf hok
noncomputable def pX11_refusalOf (b : BS) (kk : Int32) (a1 : Option Nat) (a2 : Int32) (a3 : Int32) (a4 : Int32) (a5 : Int32) : Int32 := if a1 = none then (2) else (if (sL4.getD ((enO a1).toNatClampNeg) 0) = 1 then (pX2_refusalOfField b a2 a3) else (if (sL4.getD ((enO a1).toNatClampNeg) 0) = 2 then (pX2_refusalOfMicrophone b a2 a3) else (if (sL4.getD ((enO a1).toNatClampNeg) 0) = 3 then (pX2_refusalOfWall b a2 a3 a4) else (if (sL4.getD ((enO a1).toNatClampNeg) 0) = 4 then (pX2_refusalOfScreen b a2 a3 a4 a5) else (if (sL4.getD ((enO a1).toNatClampNeg) 0) = 5 then (pX2_refusalOfSetting b a2 a3) else (pX2_refusalOfClick b a2 a3 a4))))))
def kX11_refusalOf (b : BS) (kk : Int32) (a1 : Option Nat) (a2 : Int32) (a3 : Int32) (a4 : Int32) (a5 : Int32) : Prop := if a1 = none then (True) else ((isE a1) ∧ ((vp_in (enO a1) 7) ∧ (if (sL4.getD ((enO a1).toNatClampNeg) 0) = 1 then (True) else (if (sL4.getD ((enO a1).toNatClampNeg) 0) = 2 then (True) else (if (sL4.getD ((enO a1).toNatClampNeg) 0) = 3 then (True) else (if (sL4.getD ((enO a1).toNatClampNeg) 0) = 4 then (True) else (if (sL4.getD ((enO a1).toNatClampNeg) 0) = 5 then (kX2_refusalOfSetting b a2 a3) else (True))))))))
abbrev rX11_refusalOf : Room := { frames := 3, cells := 0, slots := 0, locals := 66 }
noncomputable def pX11_carryOut (te : TS) (b : BS) (kk : Int32) (a1 : Option Nat) (a2 : Int32) (a3 : Int32) (a4 : Int32) (a5 : Int32) : TS × BS × Int32 := if a1 = none then ((te, b, kk)) else (if (sL4.getD ((enO a1).toNatClampNeg) 0) = 1 then (bd (pX2_startField b a2 a3) fun (r3 : Int32) (u4 : BS) => (te, u4, kk)) else (if (sL4.getD ((enO a1).toNatClampNeg) 0) = 2 then (bd (pX2_placeMicrophone b a2 a3) fun (r7 : Int32) (u8 : BS) => (te, u8, kk)) else (if (sL4.getD ((enO a1).toNatClampNeg) 0) = 3 then (bd (pX2_placeWall b a2 a3 a4) fun (r11 : Int32) (u12 : BS) => (te, u12, kk)) else (if (sL4.getD ((enO a1).toNatClampNeg) 0) = 4 then (bd (pX2_placeScreen b a2 a3 a4 a5) fun (r15 : Int32) (u16 : BS) => (te, u16, kk)) else (if (sL4.getD ((enO a1).toNatClampNeg) 0) = 5 then (bd (pX2_changeSetting b a2 a3) fun (r19 : Int32) (u20 : BS) => (te, u20, kk)) else (if (sL4.getD ((enO a1).toNatClampNeg) 0) = 6 then (bd (pX6_hearClick te b a2 a3 a4) fun (r23 : Int32) (u24 : TS × BS) => (u24.1, u24.2, kk)) else (bd (pX6_hearKnownClick te b a2 a3 a4) fun (r26 : Int32) (u27 : TS × BS) => (u27.1, u27.2, kk))))))))
def kX11_carryOut (te : TS) (b : BS) (kk : Int32) (a1 : Option Nat) (a2 : Int32) (a3 : Int32) (a4 : Int32) (a5 : Int32) : Prop := if a1 = none then (True) else ((isE a1) ∧ ((vp_in (enO a1) 7) ∧ (if (sL4.getD ((enO a1).toNatClampNeg) 0) = 1 then (True) else (if (sL4.getD ((enO a1).toNatClampNeg) 0) = 2 then (kX2_placeMicrophone b a2 a3) else (if (sL4.getD ((enO a1).toNatClampNeg) 0) = 3 then (kX2_placeWall b a2 a3 a4) else (if (sL4.getD ((enO a1).toNatClampNeg) 0) = 4 then (kX2_placeScreen b a2 a3 a4 a5) else (if (sL4.getD ((enO a1).toNatClampNeg) 0) = 5 then (kX2_changeSetting b a2 a3) else (if (sL4.getD ((enO a1).toNatClampNeg) 0) = 6 then (kX6_hearClick te b a2 a3 a4) else (kX6_hearKnownClick te b a2 a3 a4)))))))))
abbrev rX11_carryOut : Room := { frames := 6, cells := 0, slots := 0, locals := 156 }
