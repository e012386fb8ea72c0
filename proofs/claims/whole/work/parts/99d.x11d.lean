abbrev rX11_foundWithout : Room := { frames := 8, cells := 4, slots := 24, locals := 148 }
set_option maxHeartbeats 4000000 in
set_option maxRecDepth 100000 in
theorem mX11_foundWithout (l : Launch) (hfl : l.stackTraces = false) (dC : Nat → ClassId) (dI : Nat → Nat → Nat) (cI cB cO cL : ClassId) (N0 : Nat) (sT eA : Nat → Nat) (qs : Nat → Nat) (qb : Nat → Nat) (qk : Nat → Nat) (qr : Nat → Nat) (qe : Nat → Nat) (qu : Nat → Nat) (qx : Nat → Nat) (qd : Nat → Nat) (s9 : SS) (b : BS) (kk : Int32) (a1 : Int32) (sz : Nat) (hsz : N0 ≤ sz) (hI : gD (fun _ => True) (sAd qs ++ bAd qb ++ kAd qk)) (hN9 : ∀ a ∈ (sAd qs ++ bAd qb ++ kAd qk : List Nat), N0 ≤ a) (hok : kX11_foundWithout s9 b kk a1) : vx_Met l yX11_foundWithout wsX11_foundWithout rX11_foundWithout (zP N0 sz sT eA (dC, dI) (tYS cI cB cO cL) (sw qs cI s9 ++ bw qb cI b ++ kw qk qb qr qe qs qu qx qd cI kk) [.ref (qk 0), .int a1]) (yQi (dC, dI) (fun z9 : SS × BS × Int32 => sw qs cI z9.1 ++ bw qb cI z9.2.1 ++ kw qk qb qr qe qs qu qx qd cI z9.2.2) (va_A (sw qs cI s9 ++ bw qb cI b ++ kw qk qb qr qe qs qu qx qd cI kk) sz) (pX11_foundWithout s9 b kk a1)) (yX (dC, dI) (fun z9 : SS × BS × Int32 => sw qs cI z9.1 ++ bw qb cI z9.2.1 ++ kw qk qb qr qe qs qu qx qd cI z9.2.2) (va_A (sw qs cI s9 ++ bw qb cI b ++ kw qk qb qr qe qs qu qx qd cI kk) sz) (pX11_foundWithout s9 b kk a1)) 4 24 (va_A (sw qs cI s9 ++ bw qb cI b ++ kw qk qb qr qe qs qu qx qd cI kk) sz) := by
  refine zMet (cc := cX11_foundWithout) (maxL := 2) (ret := some .int) [(0, .ref (qk 0)), (1, .int a1)] (by decide) rfl rfl rfl ?_
  intro p e s mi below meth c C0 htab hz hK hF hP ls hl
  obtain ⟨hx, hb, hr, hml, hown, hts, hlocks⟩ := id C0
  have hown : s.vm.findClass RX11 = some mi.cls := hown
  have hE := hF.1
  subst hz
  have hA0 : ∀ q : Nat, s.heap.size ≤ q → (va_A (sw qs cI s9 ++ bw qb cI b ++ kw qk qb qr qe qs qu qx qd cI kk) s.heap.size) q := fun q h => Or.inr h
  have hN : ∀ q : Nat, (va_A (sw qs cI s9 ++ bw qb cI b ++ kw qk qb qr qe qs qu qx qd cI kk) s.heap.size) q → N0 ≤ q := vA_N (ws := sw qs cI s9 ++ bw qb cI b ++ kw qk qb qr qe qs qu qx qd cI kk) hN9 hsz
  have hH := hF.2.2.narrow hN
  have hS : va_S (va_A (sw qs cI s9 ++ bw qb cI b ++ kw qk qb qr qe qs qu qx qd cI kk) s.heap.size) s.heap s.heap [] := va_S.rf
  have hD : gD (va_A (sw qs cI s9 ++ bw qb cI b ++ kw qk qb qr qe qs qu qx qd cI kk) s.heap.size) (sAd qs ++ bAd qb ++ kAd qk) := gD_vA (ws := sw qs cI s9 ++ bw qb cI b ++ kw qk qb qr qe qs qu qx qd cI kk) hI
  have hP : va_P (dC, dI) vwCl (sw qs cI s9 ++ bw qb cI b ++ kw qk qb qr qe qs qu qx qd cI kk) s.heap := hP
  obtain ⟨F, hFe⟩ : ∃ F, F = pX11_foundWithout s9 b kk a1 := ⟨_, rfl⟩
  have hf := hFe
  have hin11 : ∀ w ∈ u_ws RX11 TX11 8, w ∈ wsX11_foundWithout := by decide +kernel
  have hin2 : ∀ w ∈ u_ws RX2 TX2 8, w ∈ wsX11_foundWithout := by decide +kernel
  have hin8 : ∀ w ∈ u_ws RX8 TX8 9, w ∈ wsX11_foundWithout := by decide +kernel
  have fl10 := hts (.fieldLink RX11 10 "ClickBench" "bench" "LClickBench$Bench;") (by decide +kernel)
  have fl82 := hts (.fieldLink RX11 82 "ClickBench$Bench" "microphones" "LClickBench$Table;") (by decide +kernel)
  have fl33 := hts (.fieldLink RX11 33 "ClickBench" "survey" "LClickBench$Survey;") (by decide +kernel)
  have fl185 := hts (.fieldLink RX11 185 "ClickBench$Survey" "best" "I") (by decide +kernel)
  refine lv_aload_n hx hb dX11_foundWithout_0 rfl (lv_at hl 0 rfl) ?_
  refine va_get (D := (dC, dI)) (ci := 8) (v := .ref (qb 0)) (C := RX11) (T := TX11) (N := 8) hx hb hts hin11 hown hK hP 14 rfl rfl 0 (by decide) fl10 (fun _ h9 => h9) rfl dX11_foundWithout_1 ?_
  refine va_get (D := (dC, dI)) (ci := 1) (v := .ref (qb 1)) (C := RX2) (T := TX2) (N := 8) hx hb hts hin2 hown hK hP 5 rfl rfl 4 (by decide) fl82 (fun _ h9 => h9) rfl dX11_foundWithout_4 ?_
  refine lv_iload_n hx hb dX11_foundWithout_7 rfl (lv_at hl 1 rfl) ?_
  have hPc := hP.sub (ws' := tw (tad (qb 1) (qb 2)) cI 8 9 72 (b.1 4, b.2 0)) [6, 7] rfl
  refine gro_i (va_runV (As := [.int a1]) (rest := []) ⟨hx, hb, hml, hown, hts⟩ (mX9_has l dC dI cI cB cO cL (tad (qb 1) (qb 2)) 8 9 72 (b.1 4, b.2 0) a1  ) (cwV 1 hts gX11_foundWithout_X9_has rfl rfl rfl (by decide +kernel) ⟨Nat.le_of_ble_eq_true rfl, Nat.le_of_ble_eq_true rfl⟩) ⟨cP_blind, va_recv hK hPc (ci := 6) (q0 := 0) rfl rfl, cP_ok hPc hK hE⟩ rfl rfl hl.1 rfl (lv_room (Nat.le_of_ble_eq_true rfl)) dX11_foundWithout_8 ⟨Nat.le_of_ble_eq_true rfl, Nat.le_of_ble_eq_true rfl⟩) ?_
  refine x_callS (vx_runS (As := [.int (bz (pX9_has 8 9 72 (b.1 4, b.2 0) a1))]) (rest := []) ⟨hx, hb, hml, hown, hts⟩ (mX11_requireThere l hfl dC dI cI cB cO cL N0 sT eA s.heap.size (Nat.le_trans hsz hS.1) (pX9_has 8 9 72 (b.1 4, b.2 0) a1)) (va_cwS 1 hts gX11_foundWithout_X11_requireThere rfl rfl rfl (by decide +kernel) ⟨Nat.le_of_ble_eq_true rfl, Nat.le_of_ble_eq_true rfl⟩) ⟨zP_blind, zP_ok va_P_nil hK hF hS hN⟩ rfl rfl hl.1 rfl (lv_room (Nat.le_of_ble_eq_true rfl)) dX11_foundWithout_11 ⟨Nat.le_of_ble_eq_true rfl, Nat.le_of_ble_eq_true rfl⟩) hP hS hA0 (fun hne q9 ce H locs hP hS hce hcv hcl => ?_) (fun h0 H locs hP hS => ?_)
  · exact x_out htab hlocks hne ((xb_1 hne hf).symm.trans hFe) hP hS hce hcv hcl rfl rfl
  · have hf := xb_0 h0 hf
    have hok := xk_0 h0 hok
    refine lv_aload_n hx hb dX11_foundWithout_14 rfl (lv_at hl 0 rfl) ?_
    refine va_get (D := (dC, dI)) (ci := 8) (v := .ref (qs 0)) (C := RX11) (T := TX11) (N := 8) hx hb hts hin11 hown hK hP 14 rfl rfl 3 (by decide) fl33 (fun _ h9 => h9) rfl dX11_foundWithout_15 ?_
    refine lv_aload_n hx hb dX11_foundWithout_18 rfl (lv_at hl 0 rfl) ?_
    refine va_get (D := (dC, dI)) (ci := 8) (v := .ref (qb 0)) (C := RX11) (T := TX11) (N := 8) hx hb hts hin11 hown hK hP 14 rfl rfl 0 (by decide) fl10 (fun _ h9 => h9) rfl dX11_foundWithout_19 ?_
    refine lv_iload_n hx hb dX11_foundWithout_22 rfl (lv_at hl 1 rfl) ?_
    have h1 : kX8_take s9 b a1 := hok
    have hPc := hP.sub (ws' := sw qs cI s9 ++ bw qb cI b) [0, 1, 2, 3, 4, 5, 6, 7, 8, 9, 10, 11, 12, 13] rfl
    refine gmu_v (va_runV (As := [.ref (qb 0), .int a1]) (rest := []) ⟨hx, hb, hml, hown, hts⟩ (mX8_take l dC dI cI cB cO cL qs qb s9 b a1 (gD_subT hD [0, 1, 2, 3, 4, 5, 6, 7, 8, 9, 10, 11, 12, 13] rfl rfl) h1) (cwV 2 hts gX11_foundWithout_X8_take rfl rfl rfl (by decide +kernel) ⟨Nat.le_of_ble_eq_true rfl, Nat.le_of_ble_eq_true rfl⟩) ⟨cP_blind, va_recv hK hPc (ci := 5) (q0 := 0) rfl rfl, cP_ok hPc hK hE⟩ rfl rfl hl.1 rfl (lv_room (Nat.le_of_ble_eq_true rfl)) dX11_foundWithout_23 ⟨Nat.le_of_ble_eq_true rfl, Nat.le_of_ble_eq_true rfl⟩) hP (gD_va hD rfl) hS [0, 1, 2, 3, 4, 5, 6, 7, 8, 9, 10, 11, 12, 13] rfl (fun _ => rfl) (fun u3 H locs hw hP hS => ?_)
    have hP : va_P (dC, dI) vwCl (sw qs cI u3.1 ++ bw qb cI u3.2 ++ kw qk qb qr qe qs qu qx qd cI kk) H := hP
    have hf := lt_eq hw hf
    refine lv_aload_n hx hb dX11_foundWithout_26 rfl (lv_at hl 0 rfl) ?_
    refine va_get (D := (dC, dI)) (ci := 8) (v := .ref (qs 0)) (C := RX11) (T := TX11) (N := 8) hx hb hts hin11 hown hK hP 14 rfl rfl 3 (by decide) fl33 (fun _ h9 => h9) rfl dX11_foundWithout_27 ?_
    refine va_get (D := (dC, dI)) (ci := 5) (v := .int (u3.1.1 1)) (C := RX8) (T := TX8) (N := 9) hx hb hts hin8 hown hK hP 0 rfl rfl 5 (by decide) fl185 (fun _ h9 => h9) rfl dX11_foundWithout_30 ?_
    exact e_yi C0 (hf.symm.trans hFe) hP hS rfl rfl dX11_foundWithout_33
abbrev rX11_whole : Room := { frames := 8, cells := 4, slots := 24, locals := 148 }
set_option maxHeartbeats 4000000 in
set_option maxRecDepth 100000 in
theorem mX11_whole (l : Launch) (hfl : l.stackTraces = false) (dC : Nat → ClassId) (dI : Nat → Nat → Nat) (cI cB cO cL : ClassId) (N0 : Nat) (sT eA : Nat → Nat) (qs : Nat → Nat) (qb : Nat → Nat) (qk : Nat → Nat) (qr : Nat → Nat) (qe : Nat → Nat) (qu : Nat → Nat) (qx : Nat → Nat) (qd : Nat → Nat) (s9 : SS) (b : BS) (kk : Int32) (a1 : Int32) (sz : Nat) (hsz : N0 ≤ sz) (hI : gD (fun _ => True) (sAd qs ++ bAd qb ++ kAd qk)) (hN9 : ∀ a ∈ (sAd qs ++ bAd qb ++ kAd qk : List Nat), N0 ≤ a) (hok : kX11_whole s9 b kk a1) : vx_Met l yX11_whole wsX11_whole rX11_whole (zP N0 sz sT eA (dC, dI) (tYS cI cB cO cL) (sw qs cI s9 ++ bw qb cI b ++ kw qk qb qr qe qs qu qx qd cI kk) [.ref (qk 0), .int a1]) (yQi (dC, dI) (fun z9 : SS × BS × Int32 => sw qs cI z9.1 ++ bw qb cI z9.2.1 ++ kw qk qb qr qe qs qu qx qd cI z9.2.2) (va_A (sw qs cI s9 ++ bw qb cI b ++ kw qk qb qr qe qs qu qx qd cI kk) sz) (pX11_whole s9 b kk a1)) (yX (dC, dI) (fun z9 : SS × BS × Int32 => sw qs cI z9.1 ++ bw qb cI z9.2.1 ++ kw qk qb qr qe qs qu qx qd cI z9.2.2) (va_A (sw qs cI s9 ++ bw qb cI b ++ kw qk qb qr qe qs qu qx qd cI kk) sz) (pX11_whole s9 b kk a1)) 4 24 (va_A (sw qs cI s9 ++ bw qb cI b ++ kw qk qb qr qe qs qu qx qd cI kk) sz) := by
  refine zMet (cc := cX11_whole) (maxL := 2) (ret := some .int) [(0, .ref (qk 0)), (1, .int a1)] (by decide) rfl rfl rfl ?_
  intro p e s mi below meth c C0 htab hz hK hF hP ls hl
  obtain ⟨hx, hb, hr, hml, hown, hts, hlocks⟩ := id C0
  have hown : s.vm.findClass RX11 = some mi.cls := hown
  have hE := hF.1
  subst hz
  have hA0 : ∀ q : Nat, s.heap.size ≤ q → (va_A (sw qs cI s9 ++ bw qb cI b ++ kw qk qb qr qe qs qu qx qd cI kk) s.heap.size) q := fun q h => Or.inr h
  have hN : ∀ q : Nat, (va_A (sw qs cI s9 ++ bw qb cI b ++ kw qk qb qr qe qs qu qx qd cI kk) s.heap.size) q → N0 ≤ q := vA_N (ws := sw qs cI s9 ++ bw qb cI b ++ kw qk qb qr qe qs qu qx qd cI kk) hN9 hsz
  have hH := hF.2.2.narrow hN
  have hS : va_S (va_A (sw qs cI s9 ++ bw qb cI b ++ kw qk qb qr qe qs qu qx qd cI kk) s.heap.size) s.heap s.heap [] := va_S.rf
  have hD : gD (va_A (sw qs cI s9 ++ bw qb cI b ++ kw qk qb qr qe qs qu qx qd cI kk) s.heap.size) (sAd qs ++ bAd qb ++ kAd qk) := gD_vA (ws := sw qs cI s9 ++ bw qb cI b ++ kw qk qb qr qe qs qu qx qd cI kk) hI
  have hP : va_P (dC, dI) vwCl (sw qs cI s9 ++ bw qb cI b ++ kw qk qb qr qe qs qu qx qd cI kk) s.heap := hP
  obtain ⟨F, hFe⟩ : ∃ F, F = pX11_whole s9 b kk a1 := ⟨_, rfl⟩
  have hf := hFe
  have hin11 : ∀ w ∈ u_ws RX11 TX11 8, w ∈ wsX11_whole := by decide +kernel
  have fl33 := hts (.fieldLink RX11 33 "ClickBench" "survey" "LClickBench$Survey;") (by decide +kernel)
  have fl10 := hts (.fieldLink RX11 10 "ClickBench" "bench" "LClickBench$Bench;") (by decide +kernel)
  have J_33 : ∀ (v1_33 : Int32) (s9_33 : SS) (b_33 : BS) (kk_33 : Int32) (H : Heap) (locs : List Loc), va_P (dC, dI) vwCl (sw qs cI s9_33 ++ bw qb cI b_33 ++ kw qk qb qr qe qs qu qx qd cI kk_33) H → va_S (va_A (sw qs cI s9 ++ bw qb cI b ++ kw qk qb qr qe qs qu qx qd cI kk) s.heap.size) s.heap H locs → ∀ ls : Array Slot, lv_has ls 2 [(0, .ref (qk 0)), (1, .int v1_33)] → F = pX11_whole_L33 v1_33 s9_33 b_33 kk_33 → kX11_whole_L33 v1_33 s9_33 b_33 kk_33 → W p l e rX11_whole s mi ([.ref (qk 0), .int a1] : List Value).toArray below meth c H locs 1 6 (vx_MQ below (yQi (dC, dI) (fun z9 : SS × BS × Int32 => sw qs cI z9.1 ++ bw qb cI z9.2.1 ++ kw qk qb qr qe qs qu qx qd cI z9.2.2) (va_A (sw qs cI s9 ++ bw qb cI b ++ kw qk qb qr qe qs qu qx qd cI kk) s.heap.size) (pX11_whole s9 b kk a1)) (yX (dC, dI) (fun z9 : SS × BS × Int32 => sw qs cI z9.1 ++ bw qb cI z9.2.1 ++ kw qk qb qr qe qs qu qx qd cI z9.2.2) (va_A (sw qs cI s9 ++ bw qb cI b ++ kw qk qb qr qe qs qu qx qd cI kk) s.heap.size) (pX11_whole s9 b kk a1)) ([.ref (qk 0), .int a1] : List Value).toArray s 4 24 (va_A (sw qs cI s9 ++ bw qb cI b ++ kw qk qb qr qe qs qu qx qd cI kk) s.heap.size)) (F0 mi 33 ls []) := by
    intro v1_33 s9_33 b_33 kk_33 H locs hP hS ls hl hf hok
    refine lv_aload_n hx hb dX11_whole_33 rfl (lv_at hl 0 rfl) ?_
    refine lv_iload_n hx hb dX11_whole_34 rfl (lv_at hl 1 rfl) ?_
    have h2 : kX11_valueOfWhole s9_33 b_33 kk_33 v1_33 := hok
    refine gro_i (va_runV (As := [.int v1_33]) (rest := []) ⟨hx, hb, hml, hown, hts⟩ (mX11_valueOfWhole l dC dI cI cB cO cL qs qb qk qr qe qu qx qd s9_33 b_33 kk_33 v1_33  h2) (cwV 1 hts gX11_whole_X11_valueOfWhole rfl rfl rfl (by decide +kernel) ⟨Nat.le_of_ble_eq_true rfl, Nat.le_of_ble_eq_true rfl⟩) ⟨cP_blind, va_recv hK hP (ci := 8) (q0 := 14) rfl rfl, cP_ok hP hK hE⟩ rfl rfl hl.1 rfl (lv_room (Nat.le_of_ble_eq_true rfl)) dX11_whole_35 ⟨Nat.le_of_ble_eq_true rfl, Nat.le_of_ble_eq_true rfl⟩) ?_
    exact e_yi C0 (hf.symm.trans hFe) hP hS rfl rfl dX11_whole_38
  refine lv_iload_n hx hb dX11_whole_0 rfl (lv_at hl 1 rfl) ?_
  refine lv_iconst (v := 0) hx hb dX11_whole_1 (by decide) ?_
  refine lv_bipush (v := 10) hx hb dX11_whole_2 (by decide) ?_
  refine gro_i (va_runS (As := [.int a1, .int 0, .int 10]) (rest := []) ⟨hx, hb, hml, hown, hts⟩ (mX11_isBetween l dC dI cI cB cO cL  a1 0 10  ) (va_cwS 3 hts gX11_whole_X11_isBetween rfl rfl rfl (by decide +kernel) ⟨Nat.le_of_ble_eq_true rfl, Nat.le_of_ble_eq_true rfl⟩) ⟨cP_blind, cP_ok va_P_nil hK hE⟩ rfl rfl hl.1 rfl (lv_room (Nat.le_of_ble_eq_true rfl)) dX11_whole_4 ⟨Nat.le_of_ble_eq_true rfl, Nat.le_of_ble_eq_true rfl⟩) ?_
  refine x_callS (vx_runS (As := [.int (bz (pX11_isBetween a1 0 10))]) (rest := []) ⟨hx, hb, hml, hown, hts⟩ (mX11_requireRange l hfl dC dI cI cB cO cL N0 sT eA s.heap.size (Nat.le_trans hsz hS.1) (pX11_isBetween a1 0 10)) (va_cwS 1 hts gX11_whole_X11_requireRange rfl rfl rfl (by decide +kernel) ⟨Nat.le_of_ble_eq_true rfl, Nat.le_of_ble_eq_true rfl⟩) ⟨zP_blind, zP_ok va_P_nil hK hF hS hN⟩ rfl rfl hl.1 rfl (lv_room (Nat.le_of_ble_eq_true rfl)) dX11_whole_7 ⟨Nat.le_of_ble_eq_true rfl, Nat.le_of_ble_eq_true rfl⟩) hP hS hA0 (fun hne q9 ce H locs hP hS hce hcv hcl => ?_) (fun h0 H locs hP hS => ?_)
  · exact x_out htab hlocks hne ((xb_1 hne hf).symm.trans hFe) hP hS hce hcv hcl rfl rfl
  · have hf := xb_0 h0 hf
    have hok := xk_0 h0 hok
    refine lv_iload_n hx hb dX11_whole_10 rfl (lv_at hl 1 rfl) ?_
    refine lv_bipush (v := 6) hx hb dX11_whole_11 (by decide) ?_
    refine lv_bipush (v := 9) hx hb dX11_whole_13 (by decide) ?_
    refine gro_i (va_runS (As := [.int a1, .int 6, .int 9]) (rest := []) ⟨hx, hb, hml, hown, hts⟩ (mX11_isBetween l dC dI cI cB cO cL  a1 6 9  ) (va_cwS 3 hts gX11_whole_X11_isBetween rfl rfl rfl (by decide +kernel) ⟨Nat.le_of_ble_eq_true rfl, Nat.le_of_ble_eq_true rfl⟩) ⟨cP_blind, cP_ok va_P_nil hK hE⟩ rfl rfl hl.1 rfl (lv_room (Nat.le_of_ble_eq_true rfl)) dX11_whole_15 ⟨Nat.le_of_ble_eq_true rfl, Nat.le_of_ble_eq_true rfl⟩) ?_
    refine lv_if_eq (tgt := 33) hx hb dX11_whole_18 (by decide) (fun c1 => ?_) (fun c1 => ?_)
    · have c1 := bz_f c1
      have hf := ie_eq c1 hf
      have hok := ie_ok c1 hok
      exact J_33 a1 s9 b kk _ _ hP hS _ (lv_sub hl [0, 1] rfl) hf hok
    · have c1 := bz_t c1
      have hf := it_eq c1 hf
      have hok := it_ok c1 hok
      refine lv_aload_n hx hb dX11_whole_21 rfl (lv_at hl 0 rfl) ?_
      refine va_get (D := (dC, dI)) (ci := 8) (v := .ref (qs 0)) (C := RX11) (T := TX11) (N := 8) hx hb hts hin11 hown hK hP 14 rfl rfl 3 (by decide) fl33 (fun _ h9 => h9) rfl dX11_whole_22 ?_
      refine lv_aload_n hx hb dX11_whole_25 rfl (lv_at hl 0 rfl) ?_
      refine va_get (D := (dC, dI)) (ci := 8) (v := .ref (qb 0)) (C := RX11) (T := TX11) (N := 8) hx hb hts hin11 hown hK hP 14 rfl rfl 0 (by decide) fl10 (fun _ h9 => h9) rfl dX11_whole_26 ?_
      refine lv_iconst (v := (-1)) hx hb dX11_whole_29 (by decide) ?_
      obtain ⟨h3, hok⟩ := hok
      have hPc := hP.sub (ws' := sw qs cI s9 ++ bw qb cI b) [0, 1, 2, 3, 4, 5, 6, 7, 8, 9, 10, 11, 12, 13] rfl
      refine gmu_v (va_runV (As := [.ref (qb 0), .int (-1)]) (rest := []) ⟨hx, hb, hml, hown, hts⟩ (mX8_take l dC dI cI cB cO cL qs qb s9 b (-1) (gD_subT hD [0, 1, 2, 3, 4, 5, 6, 7, 8, 9, 10, 11, 12, 13] rfl rfl) h3) (cwV 2 hts gX11_whole_X8_take rfl rfl rfl (by decide +kernel) ⟨Nat.le_of_ble_eq_true rfl, Nat.le_of_ble_eq_true rfl⟩) ⟨cP_blind, va_recv hK hPc (ci := 5) (q0 := 0) rfl rfl, cP_ok hPc hK hE⟩ rfl rfl hl.1 rfl (lv_room (Nat.le_of_ble_eq_true rfl)) dX11_whole_30 ⟨Nat.le_of_ble_eq_true rfl, Nat.le_of_ble_eq_true rfl⟩) hP (gD_va hD rfl) hS [0, 1, 2, 3, 4, 5, 6, 7, 8, 9, 10, 11, 12, 13] rfl (fun _ => rfl) (fun u5 H locs hw hP hS => ?_)
      have hP : va_P (dC, dI) vwCl (sw qs cI u5.1 ++ bw qb cI u5.2 ++ kw qk qb qr qe qs qu qx qd cI kk) H := hP
      have hf := lt_eq hw hf
      have hok := lt_ok hw hok
      exact J_33 a1 u5.1 u5.2 kk _ _ hP hS _ (lv_sub hl [0, 1] rfl) hf hok
abbrev rX11_type : Room := { frames := 8, cells := 4, slots := 24, locals := 132 }
set_option maxHeartbeats 4000000 in
set_option maxRecDepth 100000 in
theorem mX11_type (l : Launch) (hfl : l.stackTraces = false) (dC : Nat → ClassId) (dI : Nat → Nat → Nat) (cI cB cO cL : ClassId) (N0 : Nat) (sT eA : Nat → Nat) (qx : Nat → Nat) (qk : Nat → Nat) (qb : Nat → Nat) (qr : Nat → Nat) (qe : Nat → Nat) (qs : Nat → Nat) (qu : Nat → Nat) (qd : Nat → Nat) (x : TS) (kk : Int32) (a1 : Int32) (sz : Nat) (hsz : N0 ≤ sz) (hI : gD (fun _ => True) (xAd qx ++ kAd qk)) (hN9 : ∀ a ∈ (xAd qx ++ kAd qk : List Nat), N0 ≤ a) (hok : kX11_type x kk a1) : vx_Met l yX11_type wsX11_type rX11_type (zP N0 sz sT eA (dC, dI) (tYS cI cB cO cL) (xw qx cI x ++ kw qk qb qr qe qs qu qx qd cI kk) [.ref (qk 0), .int a1]) (yQi (dC, dI) (fun z9 : TS × Int32 => xw qx cI z9.1 ++ kw qk qb qr qe qs qu qx qd cI z9.2) (va_A (xw qx cI x ++ kw qk qb qr qe qs qu qx qd cI kk) sz) (pX11_type x kk a1)) (yX (dC, dI) (fun z9 : TS × Int32 => xw qx cI z9.1 ++ kw qk qb qr qe qs qu qx qd cI z9.2) (va_A (xw qx cI x ++ kw qk qb qr qe qs qu qx qd cI kk) sz) (pX11_type x kk a1)) 4 24 (va_A (xw qx cI x ++ kw qk qb qr qe qs qu qx qd cI kk) sz) := by
  refine zMet (cc := cX11_type) (maxL := 2) (ret := some .int) [(0, .ref (qk 0)), (1, .int a1)] (by decide) rfl rfl rfl ?_
  intro p e s mi below meth c C0 htab hz hK hF hP ls hl
  obtain ⟨hx, hb, hr, hml, hown, hts, hlocks⟩ := id C0
  have hown : s.vm.findClass RX11 = some mi.cls := hown
  have hE := hF.1
  subst hz
  have hA0 : ∀ q : Nat, s.heap.size ≤ q → (va_A (xw qx cI x ++ kw qk qb qr qe qs qu qx qd cI kk) s.heap.size) q := fun q h => Or.inr h
  have hN : ∀ q : Nat, (va_A (xw qx cI x ++ kw qk qb qr qe qs qu qx qd cI kk) s.heap.size) q → N0 ≤ q := vA_N (ws := xw qx cI x ++ kw qk qb qr qe qs qu qx qd cI kk) hN9 hsz
  have hH := hF.2.2.narrow hN
  have hS : va_S (va_A (xw qx cI x ++ kw qk qb qr qe qs qu qx qd cI kk) s.heap.size) s.heap s.heap [] := va_S.rf
  have hD : gD (va_A (xw qx cI x ++ kw qk qb qr qe qs qu qx qd cI kk) s.heap.size) (xAd qx ++ kAd qk) := gD_vA (ws := xw qx cI x ++ kw qk qb qr qe qs qu qx qd cI kk) hI
  have hP : va_P (dC, dI) vwCl (xw qx cI x ++ kw qk qb qr qe qs qu qx qd cI kk) s.heap := hP
  obtain ⟨F, hFe⟩ : ∃ F, F = pX11_type x kk a1 := ⟨_, rfl⟩
  have hf := hFe
  have hin11 : ∀ w ∈ u_ws RX11 TX11 8, w ∈ wsX11_type := by decide +kernel
  have fl47 := hts (.fieldLink RX11 47 "ClickBench" "text" "LClickBench$CommandText;") (by decide +kernel)
  have J_25 : ∀ (v1_25 : Int32) (t0_25 : Int32) (x_25 : TS) (kk_25 : Int32) (H : Heap) (locs : List Loc), va_P (dC, dI) vwCl (xw qx cI x_25 ++ kw qk qb qr qe qs qu qx qd cI kk_25) H → va_S (va_A (xw qx cI x ++ kw qk qb qr qe qs qu qx qd cI kk) s.heap.size) s.heap H locs → ∀ ls : Array Slot, lv_has ls 2 [(0, .ref (qk 0)), (1, .int v1_25)] → F = pX11_type_L25 v1_25 t0_25 x_25 kk_25 → kX11_type_L25 v1_25 t0_25 x_25 kk_25 → W p l e rX11_type s mi ([.ref (qk 0), .int a1] : List Value).toArray below meth c H locs 1 6 (vx_MQ below (yQi (dC, dI) (fun z9 : TS × Int32 => xw qx cI z9.1 ++ kw qk qb qr qe qs qu qx qd cI z9.2) (va_A (xw qx cI x ++ kw qk qb qr qe qs qu qx qd cI kk) s.heap.size) (pX11_type x kk a1)) (yX (dC, dI) (fun z9 : TS × Int32 => xw qx cI z9.1 ++ kw qk qb qr qe qs qu qx qd cI z9.2) (va_A (xw qx cI x ++ kw qk qb qr qe qs qu qx qd cI kk) s.heap.size) (pX11_type x kk a1)) ([.ref (qk 0), .int a1] : List Value).toArray s 4 24 (va_A (xw qx cI x ++ kw qk qb qr qe qs qu qx qd cI kk) s.heap.size)) (F0 mi 25 ls [.int t0_25]) := by
    intro v1_25 t0_25 x_25 kk_25 H locs hP hS ls hl hf hok
    refine x_callS (vx_runS (As := [.int t0_25]) (rest := []) ⟨hx, hb, hml, hown, hts⟩ (mX11_refuse l hfl dC dI cI cB cO cL N0 sT eA H.size (Nat.le_trans hsz hS.1) t0_25) (va_cwS 1 hts gX11_type_X11_refuse rfl rfl rfl (by decide +kernel) ⟨Nat.le_of_ble_eq_true rfl, Nat.le_of_ble_eq_true rfl⟩) ⟨zP_blind, zP_ok va_P_nil hK hF hS hN⟩ rfl rfl hl.1 rfl (lv_room (Nat.le_of_ble_eq_true rfl)) dX11_type_25 ⟨Nat.le_of_ble_eq_true rfl, Nat.le_of_ble_eq_true rfl⟩) hP hS hA0 (fun hne q9 ce H locs hP hS hce hcv hcl => ?_) (fun h0 H locs hP hS => ?_)
    · exact x_out htab hlocks hne ((xb_1 hne hf).symm.trans hFe) hP hS hce hcv hcl rfl rfl
    · have hf := xb_0 h0 hf
      have hok := xk_0 h0 hok
      refine lv_aload_n hx hb dX11_type_28 rfl (lv_at hl 0 rfl) ?_
      refine va_get (D := (dC, dI)) (ci := 8) (v := .ref (qx 0)) (C := RX11) (T := TX11) (N := 8) hx hb hts hin11 hown hK hP 2 rfl rfl 5 (by decide) fl47 (fun _ h9 => h9) rfl dX11_type_29 ?_
      refine lv_iload_n hx hb dX11_type_32 rfl (lv_at hl 1 rfl) ?_
      have h2 : kX5_append x_25 v1_25 := hok
      have hPc := hP.sub (ws' := xw qx cI x_25) [0, 1] rfl
      refine gmu_i (va_runV (As := [.int v1_25]) (rest := []) ⟨hx, hb, hml, hown, hts⟩ (mX5_append l dC dI cI cB cO cL qx x_25 v1_25 (gD_subT hD [0, 1] rfl rfl) h2) (cwV 1 hts gX11_type_X5_append rfl rfl rfl (by decide +kernel) ⟨Nat.le_of_ble_eq_true rfl, Nat.le_of_ble_eq_true rfl⟩) ⟨cP_blind, va_recv hK hPc (ci := 3) (q0 := 0) rfl rfl, cP_ok hPc hK hE⟩ rfl rfl hl.1 rfl (lv_room (Nat.le_of_ble_eq_true rfl)) dX11_type_33 ⟨Nat.le_of_ble_eq_true rfl, Nat.le_of_ble_eq_true rfl⟩) hP (gD_va hD rfl) hS [0, 1] rfl (fun _ => rfl) (fun r3 u4 H locs hw hP hS => ?_)
      have hP : va_P (dC, dI) vwCl (xw qx cI u4 ++ kw qk qb qr qe qs qu qx qd cI kk_25) H := hP
      have hf := bd_eq hw hf
      exact e_yi C0 (hf.symm.trans hFe) hP hS rfl rfl dX11_type_36
  refine lv_iload_n hx hb dX11_type_0 rfl (lv_at hl 1 rfl) ?_
  refine lv_iconst (v := 0) hx hb dX11_type_1 (by decide) ?_
  refine lv_bipush (v := 127) hx hb dX11_type_2 (by decide) ?_
  refine gro_i (va_runS (As := [.int a1, .int 0, .int 127]) (rest := []) ⟨hx, hb, hml, hown, hts⟩ (mX11_isBetween l dC dI cI cB cO cL  a1 0 127  ) (va_cwS 3 hts gX11_type_X11_isBetween rfl rfl rfl (by decide +kernel) ⟨Nat.le_of_ble_eq_true rfl, Nat.le_of_ble_eq_true rfl⟩) ⟨cP_blind, cP_ok va_P_nil hK hE⟩ rfl rfl hl.1 rfl (lv_room (Nat.le_of_ble_eq_true rfl)) dX11_type_4 ⟨Nat.le_of_ble_eq_true rfl, Nat.le_of_ble_eq_true rfl⟩) ?_
  refine x_callS (vx_runS (As := [.int (bz (pX11_isBetween a1 0 127))]) (rest := []) ⟨hx, hb, hml, hown, hts⟩ (mX11_requireRange l hfl dC dI cI cB cO cL N0 sT eA s.heap.size (Nat.le_trans hsz hS.1) (pX11_isBetween a1 0 127)) (va_cwS 1 hts gX11_type_X11_requireRange rfl rfl rfl (by decide +kernel) ⟨Nat.le_of_ble_eq_true rfl, Nat.le_of_ble_eq_true rfl⟩) ⟨zP_blind, zP_ok va_P_nil hK hF hS hN⟩ rfl rfl hl.1 rfl (lv_room (Nat.le_of_ble_eq_true rfl)) dX11_type_7 ⟨Nat.le_of_ble_eq_true rfl, Nat.le_of_ble_eq_true rfl⟩) hP hS hA0 (fun hne q9 ce H locs hP hS hce hcv hcl => ?_) (fun h0 H locs hP hS => ?_)
  · exact x_out htab hlocks hne ((xb_1 hne hf).symm.trans hFe) hP hS hce hcv hcl rfl rfl
  · have hf := xb_0 h0 hf
    have hok := xk_0 h0 hok
    refine lv_aload_n hx hb dX11_type_10 rfl (lv_at hl 0 rfl) ?_
    refine va_get (D := (dC, dI)) (ci := 8) (v := .ref (qx 0)) (C := RX11) (T := TX11) (N := 8) hx hb hts hin11 hown hK hP 2 rfl rfl 5 (by decide) fl47 (fun _ h9 => h9) rfl dX11_type_11 ?_
    have hPc := hP.sub (ws' := xw qx cI x) [0, 1] rfl
    refine gro_i (va_runV (As := []) (rest := []) ⟨hx, hb, hml, hown, hts⟩ (mX5_isFull l dC dI cI cB cO cL qx x  ) (cwV 0 hts gX11_type_X5_isFull rfl rfl rfl (by decide +kernel) ⟨Nat.le_of_ble_eq_true rfl, Nat.le_of_ble_eq_true rfl⟩) ⟨cP_blind, va_recv hK hPc (ci := 3) (q0 := 0) rfl rfl, cP_ok hPc hK hE⟩ rfl rfl hl.1 rfl (lv_room (Nat.le_of_ble_eq_true rfl)) dX11_type_14 ⟨Nat.le_of_ble_eq_true rfl, Nat.le_of_ble_eq_true rfl⟩) ?_
    refine lv_if_eq (tgt := 24) hx hb dX11_type_17 (by decide) (fun c1 => ?_) (fun c1 => ?_)
    · have c1 := bz_f c1
      have hf := ie_eq c1 hf
      have hok := ie_ok c1 hok
      refine lv_iconst (v := 0) hx hb dX11_type_24 (by decide) ?_
      exact J_25 a1 0 x kk _ _ hP hS _ (lv_sub hl [0, 1] rfl) hf hok
    · have c1 := bz_t c1
      have hf := it_eq c1 hf
      have hok := it_ok c1 hok
      refine lv_iconst (v := 3) hx hb dX11_type_20 (by decide) ?_
      refine lv_goto (tgt := 25) hx hb dX11_type_21 (by decide) ?_
      exact J_25 a1 3 x kk _ _ hP hS _ (lv_sub hl [0, 1] rfl) hf hok
abbrev rX11_undo : Room := { frames := 7, cells := 4, slots := 24, locals := 110 }
set_option maxHeartbeats 4000000 in
set_option maxRecDepth 100000 in
theorem mX11_undo (l : Launch) (hfl : l.stackTraces = false) (dC : Nat → ClassId) (dI : Nat → Nat → Nat) (cI cB cO cL : ClassId) (N0 : Nat) (sT eA : Nat → Nat) (qs : Nat → Nat) (qu : Nat → Nat) (qb : Nat → Nat) (qk : Nat → Nat) (qr : Nat → Nat) (qe : Nat → Nat) (qx : Nat → Nat) (qd : Nat → Nat) (s9 : SS) (u : US) (b : BS) (kk : Int32) (sz : Nat) (hsz : N0 ≤ sz) (hI : gD (fun _ => True) (sAd qs ++ uAd qu ++ bAd qb ++ kAd qk)) (hN9 : ∀ a ∈ (sAd qs ++ uAd qu ++ bAd qb ++ kAd qk : List Nat), N0 ≤ a) (hok : kX11_undo s9 u b kk) : vx_Met l yX11_undo wsX11_undo rX11_undo (zP N0 sz sT eA (dC, dI) (tYS cI cB cO cL) (sw qs cI s9 ++ uw qu cI cB u ++ bw qb cI b ++ kw qk qb qr qe qs qu qx qd cI kk) [.ref (qk 0)]) (yQi (dC, dI) (fun z9 : SS × US × BS × Int32 => sw qs cI z9.1 ++ uw qu cI cB z9.2.1 ++ bw qb cI z9.2.2.1 ++ kw qk qb qr qe qs qu qx qd cI z9.2.2.2) (va_A (sw qs cI s9 ++ uw qu cI cB u ++ bw qb cI b ++ kw qk qb qr qe qs qu qx qd cI kk) sz) (pX11_undo s9 u b kk)) (yX (dC, dI) (fun z9 : SS × US × BS × Int32 => sw qs cI z9.1 ++ uw qu cI cB z9.2.1 ++ bw qb cI z9.2.2.1 ++ kw qk qb qr qe qs qu qx qd cI z9.2.2.2) (va_A (sw qs cI s9 ++ uw qu cI cB u ++ bw qb cI b ++ kw qk qb qr qe qs qu qx qd cI kk) sz) (pX11_undo s9 u b kk)) 4 24 (va_A (sw qs cI s9 ++ uw qu cI cB u ++ bw qb cI b ++ kw qk qb qr qe qs qu qx qd cI kk) sz) := by
  refine zMet (cc := cX11_undo) (maxL := 1) (ret := some .int) [(0, .ref (qk 0))] (by decide) rfl rfl rfl ?_
  intro p e s mi below meth c C0 htab hz hK hF hP ls hl
  obtain ⟨hx, hb, hr, hml, hown, hts, hlocks⟩ := id C0
  have hown : s.vm.findClass RX11 = some mi.cls := hown
  have hE := hF.1
  subst hz
  have hA0 : ∀ q : Nat, s.heap.size ≤ q → (va_A (sw qs cI s9 ++ uw qu cI cB u ++ bw qb cI b ++ kw qk qb qr qe qs qu qx qd cI kk) s.heap.size) q := fun q h => Or.inr h
  have hN : ∀ q : Nat, (va_A (sw qs cI s9 ++ uw qu cI cB u ++ bw qb cI b ++ kw qk qb qr qe qs qu qx qd cI kk) s.heap.size) q → N0 ≤ q := vA_N (ws := sw qs cI s9 ++ uw qu cI cB u ++ bw qb cI b ++ kw qk qb qr qe qs qu qx qd cI kk) hN9 hsz
  have hH := hF.2.2.narrow hN
  have hS : va_S (va_A (sw qs cI s9 ++ uw qu cI cB u ++ bw qb cI b ++ kw qk qb qr qe qs qu qx qd cI kk) s.heap.size) s.heap s.heap [] := va_S.rf
  have hD : gD (va_A (sw qs cI s9 ++ uw qu cI cB u ++ bw qb cI b ++ kw qk qb qr qe qs qu qx qd cI kk) s.heap.size) (sAd qs ++ uAd qu ++ bAd qb ++ kAd qk) := gD_vA (ws := sw qs cI s9 ++ uw qu cI cB u ++ bw qb cI b ++ kw qk qb qr qe qs qu qx qd cI kk) hI
  have hP : va_P (dC, dI) vwCl (sw qs cI s9 ++ uw qu cI cB u ++ bw qb cI b ++ kw qk qb qr qe qs qu qx qd cI kk) s.heap := hP
  obtain ⟨F, hFe⟩ : ∃ F, F = pX11_undo s9 u b kk := ⟨_, rfl⟩
  have hf := hFe
  have hin11 : ∀ w ∈ u_ws RX11 TX11 8, w ∈ wsX11_undo := by decide +kernel
  have hin10 : ∀ w ∈ u_ws RX10 TX10 3, w ∈ wsX11_undo := by decide +kernel
  have fl40 := hts (.fieldLink RX11 40 "ClickBench" "saved" "LClickBench$UndoStack;") (by decide +kernel)
  have fl243 := hts (.fieldLink RX11 243 "ClickBench$UndoStack" "depth" "I") (by decide +kernel)
  have fl10 := hts (.fieldLink RX11 10 "ClickBench" "bench" "LClickBench$Bench;") (by decide +kernel)
  have fl33 := hts (.fieldLink RX11 33 "ClickBench" "survey" "LClickBench$Survey;") (by decide +kernel)
  have J_15 : ∀ (t0_15 : Int32) (s9_15 : SS) (u_15 : US) (b_15 : BS) (kk_15 : Int32) (H : Heap) (locs : List Loc), va_P (dC, dI) vwCl (sw qs cI s9_15 ++ uw qu cI cB u_15 ++ bw qb cI b_15 ++ kw qk qb qr qe qs qu qx qd cI kk_15) H → va_S (va_A (sw qs cI s9 ++ uw qu cI cB u ++ bw qb cI b ++ kw qk qb qr qe qs qu qx qd cI kk) s.heap.size) s.heap H locs → ∀ ls : Array Slot, lv_has ls 1 [(0, .ref (qk 0))] → F = pX11_undo_L15 t0_15 s9_15 u_15 b_15 kk_15 → kX11_undo_L15 t0_15 s9_15 u_15 b_15 kk_15 → W p l e rX11_undo s mi ([.ref (qk 0)] : List Value).toArray below meth c H locs 0 0 (vx_MQ below (yQi (dC, dI) (fun z9 : SS × US × BS × Int32 => sw qs cI z9.1 ++ uw qu cI cB z9.2.1 ++ bw qb cI z9.2.2.1 ++ kw qk qb qr qe qs qu qx qd cI z9.2.2.2) (va_A (sw qs cI s9 ++ uw qu cI cB u ++ bw qb cI b ++ kw qk qb qr qe qs qu qx qd cI kk) s.heap.size) (pX11_undo s9 u b kk)) (yX (dC, dI) (fun z9 : SS × US × BS × Int32 => sw qs cI z9.1 ++ uw qu cI cB z9.2.1 ++ bw qb cI z9.2.2.1 ++ kw qk qb qr qe qs qu qx qd cI z9.2.2.2) (va_A (sw qs cI s9 ++ uw qu cI cB u ++ bw qb cI b ++ kw qk qb qr qe qs qu qx qd cI kk) s.heap.size) (pX11_undo s9 u b kk)) ([.ref (qk 0)] : List Value).toArray s 4 24 (va_A (sw qs cI s9 ++ uw qu cI cB u ++ bw qb cI b ++ kw qk qb qr qe qs qu qx qd cI kk) s.heap.size)) (F0 mi 15 ls [.int t0_15]) := by
    intro t0_15 s9_15 u_15 b_15 kk_15 H locs hP hS ls hl hf hok
    refine x_callS (vx_runS (As := [.int t0_15]) (rest := []) ⟨hx, hb, hml, hown, hts⟩ (mX11_refuse l hfl dC dI cI cB cO cL N0 sT eA H.size (Nat.le_trans hsz hS.1) t0_15) (va_cwS 1 hts gX11_undo_X11_refuse rfl rfl rfl (by decide +kernel) ⟨Nat.le_of_ble_eq_true rfl, Nat.le_of_ble_eq_true rfl⟩) ⟨zP_blind, zP_ok va_P_nil hK hF hS hN⟩ rfl rfl hl.1 rfl (lv_room (Nat.le_of_ble_eq_true rfl)) dX11_undo_15 ⟨Nat.le_of_ble_eq_true rfl, Nat.le_of_ble_eq_true rfl⟩) hP hS hA0 (fun hne q9 ce H locs hP hS hce hcv hcl => ?_) (fun h0 H locs hP hS => ?_)
    · exact x_out htab hlocks hne ((xb_1 hne hf).symm.trans hFe) hP hS hce hcv hcl rfl rfl
    · have hf := xb_0 h0 hf
      have hok := xk_0 h0 hok
      refine lv_aload_n hx hb dX11_undo_18 rfl (lv_at hl 0 rfl) ?_
      refine va_get (D := (dC, dI)) (ci := 8) (v := .ref (qu 0)) (C := RX11) (T := TX11) (N := 8) hx hb hts hin11 hown hK hP 52 rfl rfl 4 (by decide) fl40 (fun _ h9 => h9) rfl dX11_undo_19 ?_
      refine lv_aload_n hx hb dX11_undo_22 rfl (lv_at hl 0 rfl) ?_
      refine va_get (D := (dC, dI)) (ci := 8) (v := .ref (qb 0)) (C := RX11) (T := TX11) (N := 8) hx hb hts hin11 hown hK hP 52 rfl rfl 0 (by decide) fl10 (fun _ h9 => h9) rfl dX11_undo_23 ?_
      have h2 : kX10_pop u_15 b_15 := hok
      have hPc := hP.sub (ws' := uw qu cI cB u_15 ++ bw qb cI b_15) [5, 6, 7, 8, 9, 10, 11, 12, 13, 14, 15, 16, 17, 18, 19, 20, 21, 22, 23, 24, 25, 26, 27, 28, 29, 30, 31, 32, 33, 34, 35, 36, 37, 38, 39, 40, 41, 42, 43, 44, 45, 46, 47, 48, 49, 50, 51] rfl
      refine gmu_v (va_runV (As := [.ref (qb 0)]) (rest := []) ⟨hx, hb, hml, hown, hts⟩ (mX10_pop l dC dI cI cB cO cL qu qb u_15 b_15 (gD_subT hD [5, 6, 7, 8, 9, 10, 11, 12, 13, 14, 15, 16, 17, 18, 19, 20, 21, 22, 23, 24, 25, 26, 27, 28, 29, 30, 31, 32, 33, 34, 35, 36, 37, 38, 39, 40, 41, 42, 43, 44, 45, 46, 47, 48, 49, 50, 51] rfl rfl) h2) (cwV 1 hts gX11_undo_X10_pop rfl rfl rfl (by decide +kernel) ⟨Nat.le_of_ble_eq_true rfl, Nat.le_of_ble_eq_true rfl⟩) ⟨cP_blind, va_recv hK hPc (ci := 7) (q0 := 0) rfl rfl, cP_ok hPc hK hE⟩ rfl rfl hl.1 rfl (lv_room (Nat.le_of_ble_eq_true rfl)) dX11_undo_26 ⟨Nat.le_of_ble_eq_true rfl, Nat.le_of_ble_eq_true rfl⟩) hP (gD_va hD rfl) hS [5, 6, 7, 8, 9, 10, 11, 12, 13, 14, 15, 16, 17, 18, 19, 20, 21, 22, 23, 24, 25, 26, 27, 28, 29, 30, 31, 32, 33, 34, 35, 36, 37, 38, 39, 40, 41, 42, 43, 44, 45, 46, 47, 48, 49, 50, 51] rfl (fun _ => rfl) (fun u4 H locs hw hP hS => ?_)
      have hP : va_P (dC, dI) vwCl (sw qs cI s9_15 ++ uw qu cI cB u4.1 ++ bw qb cI u4.2 ++ kw qk qb qr qe qs qu qx qd cI kk_15) H := by
        have e09 : gpatch (sw qs cI s9_15 ++ uw qu cI cB u_15 ++ bw qb cI b_15 ++ kw qk qb qr qe qs qu qx qd cI kk_15) [5, 6, 7, 8, 9, 10, 11, 12, 13, 14, 15, 16, 17, 18, 19, 20, 21, 22, 23, 24, 25, 26, 27, 28, 29, 30, 31, 32, 33, 34, 35, 36, 37, 38, 39, 40, 41, 42] (uw qu cI cB u4.1) = sw qs cI s9_15 ++ uw qu cI cB u4.1 ++ bw qb cI b_15 ++ kw qk qb qr qe qs qu qx qd cI kk_15 := gpw_1_2 (sw qs cI s9_15) (uw qu cI cB u_15) (uw qu cI cB u4.1) (bw qb cI b_15) (kw qk qb qr qe qs qu qx qd cI kk_15) [5, 6, 7, 8, 9, 10, 11, 12, 13, 14, 15, 16, 17, 18, 19, 20, 21, 22, 23, 24, 25, 26, 27, 28, 29, 30, 31, 32, 33, 34, 35, 36, 37, 38, 39, 40, 41, 42] rfl rfl
        have e19 : gpatch (sw qs cI s9_15 ++ uw qu cI cB u4.1 ++ bw qb cI b_15 ++ kw qk qb qr qe qs qu qx qd cI kk_15) [43, 44, 45, 46, 47, 48, 49, 50, 51] (bw qb cI u4.2) = sw qs cI s9_15 ++ uw qu cI cB u4.1 ++ bw qb cI u4.2 ++ kw qk qb qr qe qs qu qx qd cI kk_15 := gpw_1_1 (sw qs cI s9_15 ++ uw qu cI cB u4.1) (bw qb cI b_15) (bw qb cI u4.2) (kw qk qb qr qe qs qu qx qd cI kk_15) [43, 44, 45, 46, 47, 48, 49, 50, 51] rfl rfl
        have ea9 : gpatch (sw qs cI s9_15 ++ uw qu cI cB u_15 ++ bw qb cI b_15 ++ kw qk qb qr qe qs qu qx qd cI kk_15) [5, 6, 7, 8, 9, 10, 11, 12, 13, 14, 15, 16, 17, 18, 19, 20, 21, 22, 23, 24, 25, 26, 27, 28, 29, 30, 31, 32, 33, 34, 35, 36, 37, 38, 39, 40, 41, 42, 43, 44, 45, 46, 47, 48, 49, 50, 51] (uw qu cI cB u4.1 ++ bw qb cI u4.2) = gpatch (gpatch (sw qs cI s9_15 ++ uw qu cI cB u_15 ++ bw qb cI b_15 ++ kw qk qb qr qe qs qu qx qd cI kk_15) [5, 6, 7, 8, 9, 10, 11, 12, 13, 14, 15, 16, 17, 18, 19, 20, 21, 22, 23, 24, 25, 26, 27, 28, 29, 30, 31, 32, 33, 34, 35, 36, 37, 38, 39, 40, 41, 42] (uw qu cI cB u4.1)) [43, 44, 45, 46, 47, 48, 49, 50, 51] (bw qb cI u4.2) := gpatch_app [5, 6, 7, 8, 9, 10, 11, 12, 13, 14, 15, 16, 17, 18, 19, 20, 21, 22, 23, 24, 25, 26, 27, 28, 29, 30, 31, 32, 33, 34, 35, 36, 37, 38, 39, 40, 41, 42] [43, 44, 45, 46, 47, 48, 49, 50, 51] (uw qu cI cB u4.1) (bw qb cI u4.2) (sw qs cI s9_15 ++ uw qu cI cB u_15 ++ bw qb cI b_15 ++ kw qk qb qr qe qs qu qx qd cI kk_15) rfl
        exact (congrArg (fun z9 => va_P (dC, dI) vwCl z9 H) (ea9.trans ((congrArg (fun z9 => gpatch z9 [43, 44, 45, 46, 47, 48, 49, 50, 51] (bw qb cI u4.2)) e09).trans e19))).mp hP
      have hf := lt_eq hw hf
      refine lv_aload_n hx hb dX11_undo_29 rfl (lv_at hl 0 rfl) ?_
      refine va_get (D := (dC, dI)) (ci := 8) (v := .ref (qs 0)) (C := RX11) (T := TX11) (N := 8) hx hb hts hin11 hown hK hP 52 rfl rfl 3 (by decide) fl33 (fun _ h9 => h9) rfl dX11_undo_30 ?_
      have hPc := hP.sub (ws' := sw qs cI s9_15) [0, 1, 2, 3, 4] rfl
      refine gmu_v (va_runV (As := []) (rest := []) ⟨hx, hb, hml, hown, hts⟩ (mX8_outdate l dC dI cI cB cO cL qs s9_15 (gD_subT hD [0, 1, 2, 3, 4] rfl rfl) ) (cwV 0 hts gX11_undo_X8_outdate rfl rfl rfl (by decide +kernel) ⟨Nat.le_of_ble_eq_true rfl, Nat.le_of_ble_eq_true rfl⟩) ⟨cP_blind, va_recv hK hPc (ci := 5) (q0 := 0) rfl rfl, cP_ok hPc hK hE⟩ rfl rfl hl.1 rfl (lv_room (Nat.le_of_ble_eq_true rfl)) dX11_undo_33 ⟨Nat.le_of_ble_eq_true rfl, Nat.le_of_ble_eq_true rfl⟩) hP (gD_va hD rfl) hS [0, 1, 2, 3, 4] rfl (fun _ => rfl) (fun u6 H locs hw hP hS => ?_)
      have hP : va_P (dC, dI) vwCl (sw qs cI u6 ++ uw qu cI cB u4.1 ++ bw qb cI u4.2 ++ kw qk qb qr qe qs qu qx qd cI kk_15) H := by
        have e09 : gpatch (sw qs cI s9_15 ++ uw qu cI cB u4.1 ++ bw qb cI u4.2 ++ kw qk qb qr qe qs qu qx qd cI kk_15) [0, 1, 2, 3, 4] (sw qs cI u6) = sw qs cI u6 ++ uw qu cI cB u4.1 ++ bw qb cI u4.2 ++ kw qk qb qr qe qs qu qx qd cI kk_15 := gpw_0_3 (sw qs cI s9_15) (sw qs cI u6) (uw qu cI cB u4.1) (bw qb cI u4.2) (kw qk qb qr qe qs qu qx qd cI kk_15) [0, 1, 2, 3, 4] rfl rfl
        exact (congrArg (fun z9 => va_P (dC, dI) vwCl z9 H) e09).mp hP
      have hf := lt_eq hw hf
      refine lv_aload_n hx hb dX11_undo_36 rfl (lv_at hl 0 rfl) ?_
      refine va_get (D := (dC, dI)) (ci := 8) (v := .ref (qu 0)) (C := RX11) (T := TX11) (N := 8) hx hb hts hin11 hown hK hP 52 rfl rfl 4 (by decide) fl40 (fun _ h9 => h9) rfl dX11_undo_37 ?_
      refine va_get (D := (dC, dI)) (ci := 7) (v := .int (u4.1.1 1)) (C := RX10) (T := TX10) (N := 3) hx hb hts hin10 hown hK hP 5 rfl rfl 2 (by decide) fl243 (fun _ h9 => h9) rfl dX11_undo_40 ?_
      exact e_yi C0 (hf.symm.trans hFe) hP hS rfl rfl dX11_undo_43
  refine lv_aload_n hx hb dX11_undo_0 rfl (lv_at hl 0 rfl) ?_
  refine va_get (D := (dC, dI)) (ci := 8) (v := .ref (qu 0)) (C := RX11) (T := TX11) (N := 8) hx hb hts hin11 hown hK hP 52 rfl rfl 4 (by decide) fl40 (fun _ h9 => h9) rfl dX11_undo_1 ?_
  refine va_get (D := (dC, dI)) (ci := 7) (v := .int (u.1 1)) (C := RX10) (T := TX10) (N := 3) hx hb hts hin10 hown hK hP 5 rfl rfl 2 (by decide) fl243 (fun _ h9 => h9) rfl dX11_undo_4 ?_
  refine lv_if_ne (tgt := 14) hx hb dX11_undo_7 (by decide) (fun c1 => ?_) (fun c1 => ?_)
  · have hf := ie_eq c1 hf
    have hok := ie_ok c1 hok
    refine lv_iconst (v := 0) hx hb dX11_undo_14 (by decide) ?_
    exact J_15 0 s9 u b kk _ _ hP hS _ (lv_sub hl [0] rfl) hf hok
  · have hf := it_eq c1 hf
    have hok := it_ok c1 hok
    refine lv_iconst (v := 3) hx hb dX11_undo_10 (by decide) ?_
    refine lv_goto (tgt := 15) hx hb dX11_undo_11 (by decide) ?_
    exact J_15 3 s9 u b kk _ _ hP hS _ (lv_sub hl [0] rfl) hf hok
