abbrev rX11_foundWithout : Room := { frames := 8, cells := 4, slots := 24, locals := 148 }
abbrev rX11_whole : Room := { frames := 8, cells := 4, slots := 24, locals := 148 }
set_option maxHeartbeats 4000000 in
set_option maxRecDepth 100000 in
theorem mX11_whole (l : Launch) (hfl : l.stackTraces = false) (dC : Nat → ClassId) (dI : Nat → Nat → Nat) (cI cB cO cL : ClassId) (N0 : Nat) (sT eA : Nat → Nat) (qs : Nat → Nat) (qb : Nat → Nat) (qk : Nat → Nat) (qr : Nat → Nat) (qe : Nat → Nat) (qu : Nat → Nat) (qx : Nat → Nat) (qd : Nat → Nat) (s9 : SS) (b : BS) (kk : Int32) (a1 : Int32) (sz : Nat) (hsz : N0 ≤ sz) (hI : gD (fun _ => True) (sAd qs ++ bAd qb ++ kAd qk)) (hN9 : ∀ a ∈ (sAd qs ++ bAd qb ++ kAd qk : List Nat), N0 ≤ a) (hok : kX11_whole s9 b kk a1) : vx_Met l yX11_whole wsX11_whole rX11_whole (zP N0 sz sT eA (dC, dI) (tYS cI cB cO cL) (sw qs cI s9 ++ bw qb cI b ++ kw qk qb qr qe qs qu qx qd cI kk) [.ref (qk 0), .int a1]) (yQi (dC, dI) (fun z9 : SS × BS × Int32 => sw qs cI z9.1 ++ bw qb cI z9.2.1 ++ kw qk qb qr qe qs qu qx qd cI z9.2.2) (va_A (sw qs cI s9 ++ bw qb cI b ++ kw qk qb qr qe qs qu qx qd cI kk) sz) (pX11_whole s9 b kk a1)) (yX (dC, dI) (fun z9 : SS × BS × Int32 => sw qs cI z9.1 ++ bw qb cI z9.2.1 ++ kw qk qb qr qe qs qu qx qd cI z9.2.2) (va_A (sw qs cI s9 ++ bw qb cI b ++ kw qk qb qr qe qs qu qx qd cI kk) sz) (pX11_whole s9 b kk a1)) 4 24 (va_A (sw qs cI s9 ++ bw qb cI b ++ kw qk qb qr qe qs qu qx qd cI kk) sz) := by
  refine zMet (cc := cX11_whole) (maxL := 2) (ret := some .int) [(0, .ref (qk 0)), (1, .int a1)] (by decide) rfl rfl rfl ?_
  intro p e s mi below meth c C0 htab hz hK hF hP ls hl
  obtain ⟨hx, hb, hr, hml, hown, hts, hlocks⟩ := id C0
  have hown : s.vm.findClass RX11 = some mi.cls := hown
  have hE := hF.1
  subst hz
  have hA0 : ∀ q : Nat, s.heap.size ≤ q → (va_A (sw qs cI s9 ++ bw qb cI b ++ kw qk qb qr qe qs qu qx qd cI kk) s.heap.size) q := fun q h => Or.inr h
  have hN : ∀ q : Nat, (va_A (sw qs cI s9 ++ bw qb cI b ++ kw qk qb qr qe qs qu qx qd cI kk) s.heap.size) q → N0 ≤ q := vA_N (ws := sw qs cI s9 ++ bw qb cI b ++ kw qk qb qr qe qs qu qx qd cI kk) hN9 hsz
  have hH := hF.2.2.narrow hN
  have hS : va_S (va_A (sw qs cI s9 ++ bw qb cI b ++ kw qk qb qr qe qs qu qx qd cI kk) s.heap.size) s.heap s.heap [] := va_S.rf
  have hD : gD (va_A (sw qs cI s9 ++ bw qb cI b ++ kw qk qb qr qe qs qu qx qd cI kk) s.heap.size) (sAd qs ++ bAd qb ++ kAd qk) := gD_vA (ws := sw qs cI s9 ++ bw qb cI b ++ kw qk qb qr qe qs qu qx qd cI kk) hI
  have hP : va_P (dC, dI) vwCl (sw qs cI s9 ++ bw qb cI b ++ kw qk qb qr qe qs qu qx qd cI kk) s.heap := hP
  obtain ⟨F, hFe⟩ : ∃ F, F = pX11_whole s9 b kk a1 := ⟨_, rfl⟩
  have hf := hFe
  have hin11 : ∀ w ∈ u_ws RX11 TX11 8, w ∈ wsX11_whole := by decide +kernel
  have fl33 := hts (.fieldLink RX11 33 "ClickBench" "survey" "LClickBench$Survey;") (by decide +kernel)
  have fl10 := hts (.fieldLink RX11 10 "ClickBench" "bench" "LClickBench$Bench;") (by decide +kernel)
  have J_33 : ∀ (v1_33 : Int32) (s9_33 : SS) (b_33 : BS) (kk_33 : Int32) (H : Heap) (locs : List Loc), va_P (dC, dI) vwCl (sw qs cI s9_33 ++ bw qb cI b_33 ++ kw qk qb qr qe qs qu qx qd cI kk_33) H → va_S (va_A (sw qs cI s9 ++ bw qb cI b ++ kw qk qb qr qe qs qu qx qd cI kk) s.heap.size) s.heap H locs → ∀ ls : Array Slot, lv_has ls 2 [(0, .ref (qk 0)), (1, .int v1_33)] → F = pX11_whole_L33 v1_33 s9_33 b_33 kk_33 → kX11_whole_L33 v1_33 s9_33 b_33 kk_33 → W p l e rX11_whole s mi ([.ref (qk 0), .int a1] : List Value).toArray below meth c H locs 1 6 (vx_MQ below (yQi (dC, dI) (fun z9 : SS × BS × Int32 => sw qs cI z9.1 ++ bw qb cI z9.2.1 ++ kw qk qb qr qe qs qu qx qd cI z9.2.2) (va_A (sw qs cI s9 ++ bw qb cI b ++ kw qk qb qr qe qs qu qx qd cI kk) s.heap.size) (pX11_whole s9 b kk a1)) (yX (dC, dI) (fun z9 : SS × BS × Int32 => sw qs cI z9.1 ++ bw qb cI z9.2.1 ++ kw qk qb qr qe qs qu qx qd cI z9.2.2) (va_A (sw qs cI s9 ++ bw qb cI b ++ kw qk qb qr qe qs qu qx qd cI kk) s.heap.size) (pX11_whole s9 b kk a1)) ([.ref (qk 0), .int a1] : List Value).toArray s 4 24 (va_A (sw qs cI s9 ++ bw qb cI b ++ kw qk qb qr qe qs qu qx qd cI kk) s.heap.size)) (F0 mi 33 ls []) := by
    intro v1_33 s9_33 b_33 kk_33 H locs hP hS ls hl hf hok
    refine lv_aload_n hx hb dX11_whole_33 rfl (lv_at hl 0 rfl) ?_
    refine lv_iload_n hx hb dX11_whole_34 rfl (lv_at hl 1 rfl) ?_
    have h2 : kX11_valueOfWhole s9_33 b_33 kk_33 v1_33 := hok
    refine gro_i (va_runV (As := [.int v1_33]) (rest := []) ⟨hx, hb, hml, hown, hts⟩ (mX11_valueOfWhole l dC dI cI cB cO cL qs qb qk qr qe qu qx qd s9_33 b_33 kk_33 v1_33  h2) (cwV 1 hts gX11_whole_X11_valueOfWhole rfl rfl rfl (by decide +kernel) ⟨Nat.le_of_ble_eq_true rfl, Nat.le_of_ble_eq_true rfl⟩) ⟨cP_blind, va_recv hK hP (ci := 8) (q0 := 14) rfl rfl, cP_ok hP hK hE⟩ rfl rfl hl.1 rfl (lv_room (Nat.le_of_ble_eq_true rfl)) dX11_whole_35 ⟨Nat.le_of_ble_eq_true rfl, Nat.le_of_ble_eq_true rfl⟩) ?_
    exact e_yi C0 (hf.symm.trans hFe) hP hS rfl rfl dX11_whole_38
  refine lv_iload_n hx hb dX11_whole_0 rfl (lv_at hl 1 rfl) ?_
  refine lv_iconst (v := 0) hx hb dX11_whole_1 (by decide) ?_
  refine lv_bipush (v := 10) hx hb dX11_whole_2 (by decide) ?_
  refine gro_i (va_runS (As := [.int a1, .int 0, .int 10]) (rest := []) ⟨hx, hb, hml, hown, hts⟩ (mX11_isBetween l dC dI cI cB cO cL  a1 0 10  ) (va_cwS 3 hts gX11_whole_X11_isBetween rfl rfl rfl (by decide +kernel) ⟨Nat.le_of_ble_eq_true rfl, Nat.le_of_ble_eq_true rfl⟩) ⟨cP_blind, cP_ok va_P_nil hK hE⟩ rfl rfl hl.1 rfl (lv_room (Nat.le_of_ble_eq_true rfl)) dX11_whole_4 ⟨Nat.le_of_ble_eq_true rfl, Nat.le_of_ble_eq_true rfl⟩) ?_
  refine x_callS (vx_runS (As := [.int (bz (pX11_isBetween a1 0 10))]) (rest := []) ⟨hx, hb, hml, hown, hts⟩ (mX11_requireRange l hfl dC dI cI cB cO cL N0 sT eA s.heap.size (Nat.le_trans hsz hS.1) (pX11_isBetween a1 0 10)) (va_cwS 1 hts gX11_whole_X11_requireRange rfl rfl rfl (by decide +kernel) ⟨Nat.le_of_ble_eq_true rfl, Nat.le_of_ble_eq_true rfl⟩) ⟨zP_blind, zP_ok va_P_nil hK hF hS hN⟩ rfl rfl hl.1 rfl (lv_room (Nat.le_of_ble_eq_true rfl)) dX11_whole_7 ⟨Nat.le_of_ble_eq_true rfl, Nat.le_of_ble_eq_true rfl⟩) hP hS hA0 (fun hne q9 ce H locs hP hS hce hcv hcl => ?_) (fun h0 H locs hP hS => ?_)
  · exact x_out htab hlocks hne ((xb_1 hne hf).symm.trans hFe) hP hS hce hcv hcl rfl rfl
  · have hf := xb_0 h0 hf
    have hok := xk_0 h0 hok
    refine lv_iload_n hx hb dX11_whole_10 rfl (lv_at hl 1 rfl) ?_
    refine lv_bipush (v := 6) hx hb dX11_whole_11 (by decide) ?_
    refine lv_bipush (v := 9) hx hb dX11_whole_13 (by decide) ?_
    refine gro_i (va_runS (As := [.int a1, .int 6, .int 9]) (rest := []) ⟨hx, hb, hml, hown, hts⟩ (mX11_isBetween l dC dI cI cB cO cL  a1 6 9  ) (va_cwS 3 hts gX11_whole_X11_isBetween rfl rfl rfl (by decide +kernel) ⟨Nat.le_of_ble_eq_true rfl, Nat.le_of_ble_eq_true rfl⟩) ⟨cP_blind, cP_ok va_P_nil hK hE⟩ rfl rfl hl.1 rfl (lv_room (Nat.le_of_ble_eq_true rfl)) dX11_whole_15 ⟨Nat.le_of_ble_eq_true rfl, Nat.le_of_ble_eq_true rfl⟩) ?_
    refine lv_if_eq (tgt := 33) hx hb dX11_whole_18 (by decide) (fun c1 => ?_) (fun c1 => ?_)
    · have c1 := bz_f c1
      have hf := ie_eq c1 hf
      have hok := ie_ok c1 hok
      exact J_33 a1 s9 b kk _ _ hP hS _ (lv_sub hl [0, 1] rfl) hf hok
    · have c1 := bz_t c1
      have hf := it_eq c1 hf
      have hok := it_ok c1 hok
      refine lv_aload_n hx hb dX11_whole_21 rfl (lv_at hl 0 rfl) ?_
      refine va_get (D := (dC, dI)) (ci := 8) (v := .ref (qs 0)) (C := RX11) (T := TX11) (N := 8) hx hb hts hin11 hown hK hP 14 rfl rfl 3 (by decide) fl33 (fun _ h9 => h9) rfl dX11_whole_22 ?_
      refine lv_aload_n hx hb dX11_whole_25 rfl (lv_at hl 0 rfl) ?_
      refine va_get (D := (dC, dI)) (ci := 8) (v := .ref (qb 0)) (C := RX11) (T := TX11) (N := 8) hx hb hts hin11 hown hK hP 14 rfl rfl 0 (by decide) fl10 (fun _ h9 => h9) rfl dX11_whole_26 ?_
      refine lv_iconst (v := (-1)) hx hb dX11_whole_29 (by decide) ?_
      obtain ⟨h3, hok⟩ := hok
      have hPc := hP.sub (ws' := sw qs cI s9 ++ bw qb cI b) [0, 1, 2, 3, 4, 5, 6, 7, 8, 9, 10, 11, 12, 13] rfl
      refine gmu_v (va_runV (As := [.ref (qb 0), .int (-1)]) (rest := []) ⟨hx, hb, hml, hown, hts⟩ (mX8_take l dC dI cI cB cO cL qs qb s9 b (-1) (gD_subT hD [0, 1, 2, 3, 4, 5, 6, 7, 8, 9, 10, 11, 12, 13] rfl rfl) h3) (cwV 2 hts gX11_whole_X8_take rfl rfl rfl (by decide +kernel) ⟨Nat.le_of_ble_eq_true rfl, Nat.le_of_ble_eq_true rfl⟩) ⟨cP_blind, va_recv hK hPc (ci := 5) (q0 := 0) rfl rfl, cP_ok hPc hK hE⟩ rfl rfl hl.1 rfl (lv_room (Nat.le_of_ble_eq_true rfl)) dX11_whole_30 ⟨Nat.le_of_ble_eq_true rfl, Nat.le_of_ble_eq_true rfl⟩) hP (gD_va hD rfl) hS [0, 1, 2, 3, 4, 5, 6, 7, 8, 9, 10, 11, 12, 13] rfl (fun _ => rfl) (fun u5 H locs hw hP hS => ?_)
      have hP : va_P (dC, dI) vwCl (sw qs cI u5.1 ++ bw qb cI u5.2 ++ kw qk qb qr qe qs qu qx qd cI kk) H := hP
      have hf := lt_eq hw hf
      have hok := lt_ok hw hok
      exact J_33 a1 u5.1 u5.2 kk _ _ hP hS _ (lv_sub hl [0, 1] rfl) hf hok
abbrev rX11_type : Room := { frames := 8, cells := 4, slots := 24, locals := 132 }
abbrev rX11_undo : Room := { frames := 7, cells := 4, slots := 24, locals := 110 }
