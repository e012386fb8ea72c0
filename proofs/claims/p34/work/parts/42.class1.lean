noncomputable def pX2_placeScreen (b : BS) (a1 : Int32) (a2 : Int32) (a3 : Int32) (a4 : Int32) : Int32 × BS := bd (pX9_addRow 4 4 16 (b.1 6, b.2 2)) fun (r2 : Int32) (u3 : TS) => lt (pX9_put 4 4 16 ((bst b 2 u3).1 6, (bst b 2 u3).2 2) r2 0 a1) fun (u6 : TS) => lt (pX9_put 4 4 16 ((bst (bst b 2 u3) 2 u6).1 6, (bst (bst b 2 u3) 2 u6).2 2) r2 1 a2) fun (u9 : TS) => lt (pX9_put 4 4 16 ((bst (bst (bst b 2 u3) 2 u6) 2 u9).1 6, (bst (bst (bst b 2 u3) 2 u6) 2 u9).2 2) r2 2 a3) fun (u12 : TS) => lt (pX9_put 4 4 16 ((bst (bst (bst (bst b 2 u3) 2 u6) 2 u9) 2 u12).1 6, (bst (bst (bst (bst b 2 u3) 2 u6) 2 u9) 2 u12).2 2) r2 3 a4) fun (u15 : TS) => (r2, bst (bst (bst (bst (bst b 2 u3) 2 u6) 2 u9) 2 u12) 2 u15)
def kX2_placeScreen (b : BS) (a1 : Int32) (a2 : Int32) (a3 : Int32) (a4 : Int32) : Prop := (kX9_addRow 4 4 16 (b.1 6, b.2 2)) ∧ (bd (pX9_addRow 4 4 16 (b.1 6, b.2 2)) fun (r2 : Int32) (u3 : TS) => (kX9_put 4 4 16 ((bst b 2 u3).1 6, (bst b 2 u3).2 2) r2 0 a1) ∧ (lt (pX9_put 4 4 16 ((bst b 2 u3).1 6, (bst b 2 u3).2 2) r2 0 a1) fun (u6 : TS) => (kX9_put 4 4 16 ((bst (bst b 2 u3) 2 u6).1 6, (bst (bst b 2 u3) 2 u6).2 2) r2 1 a2) ∧ (lt (pX9_put 4 4 16 ((bst (bst b 2 u3) 2 u6).1 6, (bst (bst b 2 u3) 2 u6).2 2) r2 1 a2) fun (u9 : TS) => (kX9_put 4 4 16 ((bst (bst (bst b 2 u3) 2 u6) 2 u9).1 6, (bst (bst (bst b 2 u3) 2 u6) 2 u9).2 2) r2 2 a3) ∧ (lt (pX9_put 4 4 16 ((bst (bst (bst b 2 u3) 2 u6) 2 u9).1 6, (bst (bst (bst b 2 u3) 2 u6) 2 u9).2 2) r2 2 a3) fun (u12 : TS) => kX9_put 4 4 16 ((bst (bst (bst (bst b 2 u3) 2 u6) 2 u9) 2 u12).1 6, (bst (bst (bst (bst b 2 u3) 2 u6) 2 u9) 2 u12).2 2) r2 3 a4))))
abbrev rX2_placeScreen : Room := { frames := 2, cells := 0, slots := 0, locals := 45 }
set_option maxHeartbeats 4000000 in
set_option maxRecDepth 100000 in
theorem mX2_placeScreen (l : Launch) (dC : Nat → ClassId) (dI : Nat → Nat → Nat) (cI cB cO cL : ClassId) (qb : Nat → Nat) (b : BS) (a1 : Int32) (a2 : Int32) (a3 : Int32) (a4 : Int32) (hI : gD (fun _ => True) (bAd qb)) (hok : kX2_placeScreen b a1 a2 a3 a4) : Met l yX2_placeScreen wsX2_placeScreen rX2_placeScreen (cP (dC, dI) (tYS cI cB cO cL) (bw qb cI b) [.ref (qb 0), .int a1, .int a2, .int a3, .int a4]) (gQi (dC, dI) (fun z9 => bw qb cI z9) (wA (bw qb cI b)) (pX2_placeScreen b a1 a2 a3 a4)) 0 0 (wA (bw qb cI b)) := by
  refine cMet (cc := cX2_placeScreen) (maxL := 6) (ret := some .int) [(0, .ref (qb 0)), (1, .int a1), (2, .int a2), (3, .int a3), (4, .int a4)] (by decide) rfl rfl rfl ?_
  intro p e s mi below meth c C0 hK hE hP ls hl
  obtain ⟨hx, hb, hr, hml, hown, hts, hlocks⟩ := id C0
  have hown : s.vm.findClass RX2 = some mi.cls := hown
  have hS : va_S (wA (bw qb cI b)) s.heap s.heap [] := va_S.rf
  have hD : gD (wA (bw qb cI b)) (bAd qb) := gD_wA (ws := bw qb cI b) hI
  have hP : va_P (dC, dI) vwCl (bw qb cI b) s.heap := hP
  obtain ⟨F, hF⟩ : ∃ F, F = pX2_placeScreen b a1 a2 a3 a4 := ⟨_, rfl⟩
  have hf := hF
  have hin2 : ∀ w ∈ u_ws RX2 TX2 8, w ∈ wsX2_placeScreen := by decide +kernel
  have fl40 := hts (.fieldLink RX2 40 "ClickBench$Bench" "screens" "LClickBench$Table;") (by decide +kernel)
  refine lv_aload_n hx hb dX2_placeScreen_0 rfl (lv_at hl 0 rfl) ?_
  refine va_get (D := (dC, dI)) (ci := 1) (v := .ref (qb 5)) (C := RX2) (T := TX2) (N := 8) hx hb hts hin2 hown hK hP 0 rfl rfl 6 (by decide) fl40 (fun _ h9 => h9) rfl dX2_placeScreen_1 ?_
  obtain ⟨h1, hok⟩ := hok
  have hPc := hP.sub (ws' := tw (tad (qb 5) (qb 6)) cI 4 4 16 (b.1 6, b.2 2)) [5, 6] rfl
  refine gmu_i (va_runV (As := []) (rest := []) ⟨hx, hb, hml, hown, hts⟩ (mX9_addRow l dC dI cI cB cO cL (tad (qb 5) (qb 6)) 4 4 16 (b.1 6, b.2 2) (gD_subT hD [5, 6] rfl rfl) h1) (cwV 0 hts gX2_placeScreen_X9_addRow rfl rfl rfl (by decide +kernel) ⟨Nat.le_of_ble_eq_true rfl, Nat.le_of_ble_eq_true rfl⟩) ⟨cP_blind, va_recv hK hPc (ci := 6) (q0 := 0) rfl rfl, cP_ok hPc hK hE⟩ rfl rfl hl.1 rfl (lv_room (Nat.le_of_ble_eq_true rfl)) dX2_placeScreen_4 ⟨Nat.zero_le _, Nat.zero_le _⟩) hP (gD_va hD rfl) hS [5, 6] rfl (fun _ => rfl) (fun r2 u3 H locs hw hP hS => ?_)
  have hP : va_P (dC, dI) vwCl (bw qb cI (bst b 2 u3)) H := hP
  have hf := bd_eq hw hf
  have hok := bd_ok hw hok
  refine lv_istore (lv' := [(5, .int r2), (0, .ref (qb 0)), (1, .int a1), (2, .int a2), (3, .int a3), (4, .int a4)]) hx hb dX2_placeScreen_7 hl (by decide) rfl (fun ls hl => ?_)
  refine lv_aload_n hx hb dX2_placeScreen_9 rfl (lv_at hl 1 rfl) ?_
  refine va_get (D := (dC, dI)) (ci := 1) (v := .ref (qb 5)) (C := RX2) (T := TX2) (N := 8) hx hb hts hin2 hown hK hP 0 rfl rfl 6 (by decide) fl40 (fun _ h9 => h9) rfl dX2_placeScreen_10 ?_
  refine lv_iload hx hb dX2_placeScreen_13 (lv_at hl 0 rfl) ?_
  refine lv_iconst (v := 0) hx hb dX2_placeScreen_15 (by decide) ?_
  refine lv_iload_n hx hb dX2_placeScreen_16 rfl (lv_at hl 2 rfl) ?_
  obtain ⟨h4, hok⟩ := hok
  have hPc := hP.sub (ws' := tw (tad (qb 5) (qb 6)) cI 4 4 16 ((bst b 2 u3).1 6, (bst b 2 u3).2 2)) [5, 6] rfl
  refine gmu_v (va_runV (As := [.int r2, .int 0, .int a1]) (rest := []) ⟨hx, hb, hml, hown, hts⟩ (mX9_put l dC dI cI cB cO cL (tad (qb 5) (qb 6)) 4 4 16 ((bst b 2 u3).1 6, (bst b 2 u3).2 2) r2 0 a1 (gD_subT hD [5, 6] rfl rfl) h4) (cwV 3 hts gX2_placeScreen_X9_put rfl rfl rfl (by decide +kernel) ⟨Nat.le_of_ble_eq_true rfl, Nat.le_of_ble_eq_true rfl⟩) ⟨cP_blind, va_recv hK hPc (ci := 6) (q0 := 0) rfl rfl, cP_ok hPc hK hE⟩ rfl rfl hl.1 rfl (lv_room (Nat.le_of_ble_eq_true rfl)) dX2_placeScreen_17 ⟨Nat.zero_le _, Nat.zero_le _⟩) hP (gD_va hD rfl) hS [5, 6] rfl (fun _ => rfl) (fun u6 H locs hw hP hS => ?_)
  have hP : va_P (dC, dI) vwCl (bw qb cI (bst (bst b 2 u3) 2 u6)) H := hP
  have hf := lt_eq hw hf
  have hok := lt_ok hw hok
  refine lv_aload_n hx hb dX2_placeScreen_20 rfl (lv_at hl 1 rfl) ?_
  refine va_get (D := (dC, dI)) (ci := 1) (v := .ref (qb 5)) (C := RX2) (T := TX2) (N := 8) hx hb hts hin2 hown hK hP 0 rfl rfl 6 (by decide) fl40 (fun _ h9 => h9) rfl dX2_placeScreen_21 ?_
  refine lv_iload hx hb dX2_placeScreen_24 (lv_at hl 0 rfl) ?_
  refine lv_iconst (v := 1) hx hb dX2_placeScreen_26 (by decide) ?_
  refine lv_iload_n hx hb dX2_placeScreen_27 rfl (lv_at hl 3 rfl) ?_
  obtain ⟨h7, hok⟩ := hok
  have hPc := hP.sub (ws' := tw (tad (qb 5) (qb 6)) cI 4 4 16 ((bst (bst b 2 u3) 2 u6).1 6, (bst (bst b 2 u3) 2 u6).2 2)) [5, 6] rfl
  refine gmu_v (va_runV (As := [.int r2, .int 1, .int a2]) (rest := []) ⟨hx, hb, hml, hown, hts⟩ (mX9_put l dC dI cI cB cO cL (tad (qb 5) (qb 6)) 4 4 16 ((bst (bst b 2 u3) 2 u6).1 6, (bst (bst b 2 u3) 2 u6).2 2) r2 1 a2 (gD_subT hD [5, 6] rfl rfl) h7) (cwV 3 hts gX2_placeScreen_X9_put rfl rfl rfl (by decide +kernel) ⟨Nat.le_of_ble_eq_true rfl, Nat.le_of_ble_eq_true rfl⟩) ⟨cP_blind, va_recv hK hPc (ci := 6) (q0 := 0) rfl rfl, cP_ok hPc hK hE⟩ rfl rfl hl.1 rfl (lv_room (Nat.le_of_ble_eq_true rfl)) dX2_placeScreen_28 ⟨Nat.zero_le _, Nat.zero_le _⟩) hP (gD_va hD rfl) hS [5, 6] rfl (fun _ => rfl) (fun u9 H locs hw hP hS => ?_)
  have hP : va_P (dC, dI) vwCl (bw qb cI (bst (bst (bst b 2 u3) 2 u6) 2 u9)) H := hP
  have hf := lt_eq hw hf
  have hok := lt_ok hw hok
  refine lv_aload_n hx hb dX2_placeScreen_31 rfl (lv_at hl 1 rfl) ?_
  refine va_get (D := (dC, dI)) (ci := 1) (v := .ref (qb 5)) (C := RX2) (T := TX2) (N := 8) hx hb hts hin2 hown hK hP 0 rfl rfl 6 (by decide) fl40 (fun _ h9 => h9) rfl dX2_placeScreen_32 ?_
  refine lv_iload hx hb dX2_placeScreen_35 (lv_at hl 0 rfl) ?_
  refine lv_iconst (v := 2) hx hb dX2_placeScreen_37 (by decide) ?_
  refine lv_iload_n hx hb dX2_placeScreen_38 rfl (lv_at hl 4 rfl) ?_
  obtain ⟨h10, hok⟩ := hok
  have hPc := hP.sub (ws' := tw (tad (qb 5) (qb 6)) cI 4 4 16 ((bst (bst (bst b 2 u3) 2 u6) 2 u9).1 6, (bst (bst (bst b 2 u3) 2 u6) 2 u9).2 2)) [5, 6] rfl
  refine gmu_v (va_runV (As := [.int r2, .int 2, .int a3]) (rest := []) ⟨hx, hb, hml, hown, hts⟩ (mX9_put l dC dI cI cB cO cL (tad (qb 5) (qb 6)) 4 4 16 ((bst (bst (bst b 2 u3) 2 u6) 2 u9).1 6, (bst (bst (bst b 2 u3) 2 u6) 2 u9).2 2) r2 2 a3 (gD_subT hD [5, 6] rfl rfl) h10) (cwV 3 hts gX2_placeScreen_X9_put rfl rfl rfl (by decide +kernel) ⟨Nat.le_of_ble_eq_true rfl, Nat.le_of_ble_eq_true rfl⟩) ⟨cP_blind, va_recv hK hPc (ci := 6) (q0 := 0) rfl rfl, cP_ok hPc hK hE⟩ rfl rfl hl.1 rfl (lv_room (Nat.le_of_ble_eq_true rfl)) dX2_placeScreen_39 ⟨Nat.zero_le _, Nat.zero_le _⟩) hP (gD_va hD rfl) hS [5, 6] rfl (fun _ => rfl) (fun u12 H locs hw hP hS => ?_)
  have hP : va_P (dC, dI) vwCl (bw qb cI (bst (bst (bst (bst b 2 u3) 2 u6) 2 u9) 2 u12)) H := hP
  have hf := lt_eq hw hf
  have hok := lt_ok hw hok
  refine lv_aload_n hx hb dX2_placeScreen_42 rfl (lv_at hl 1 rfl) ?_
  refine va_get (D := (dC, dI)) (ci := 1) (v := .ref (qb 5)) (C := RX2) (T := TX2) (N := 8) hx hb hts hin2 hown hK hP 0 rfl rfl 6 (by decide) fl40 (fun _ h9 => h9) rfl dX2_placeScreen_43 ?_
  refine lv_iload hx hb dX2_placeScreen_46 (lv_at hl 0 rfl) ?_
  refine lv_iconst (v := 3) hx hb dX2_placeScreen_48 (by decide) ?_
  refine lv_iload hx hb dX2_placeScreen_49 (lv_at hl 5 rfl) ?_
  have h13 : kX9_put 4 4 16 ((bst (bst (bst (bst b 2 u3) 2 u6) 2 u9) 2 u12).1 6, (bst (bst (bst (bst b 2 u3) 2 u6) 2 u9) 2 u12).2 2) r2 3 a4 := hok
  have hPc := hP.sub (ws' := tw (tad (qb 5) (qb 6)) cI 4 4 16 ((bst (bst (bst (bst b 2 u3) 2 u6) 2 u9) 2 u12).1 6, (bst (bst (bst (bst b 2 u3) 2 u6) 2 u9) 2 u12).2 2)) [5, 6] rfl
  refine gmu_v (va_runV (As := [.int r2, .int 3, .int a4]) (rest := []) ⟨hx, hb, hml, hown, hts⟩ (mX9_put l dC dI cI cB cO cL (tad (qb 5) (qb 6)) 4 4 16 ((bst (bst (bst (bst b 2 u3) 2 u6) 2 u9) 2 u12).1 6, (bst (bst (bst (bst b 2 u3) 2 u6) 2 u9) 2 u12).2 2) r2 3 a4 (gD_subT hD [5, 6] rfl rfl) h13) (cwV 3 hts gX2_placeScreen_X9_put rfl rfl rfl (by decide +kernel) ⟨Nat.le_of_ble_eq_true rfl, Nat.le_of_ble_eq_true rfl⟩) ⟨cP_blind, va_recv hK hPc (ci := 6) (q0 := 0) rfl rfl, cP_ok hPc hK hE⟩ rfl rfl hl.1 rfl (lv_room (Nat.le_of_ble_eq_true rfl)) dX2_placeScreen_51 ⟨Nat.zero_le _, Nat.zero_le _⟩) hP (gD_va hD rfl) hS [5, 6] rfl (fun _ => rfl) (fun u15 H locs hw hP hS => ?_)
  have hP : va_P (dC, dI) vwCl (bw qb cI (bst (bst (bst (bst (bst b 2 u3) 2 u6) 2 u9) 2 u12) 2 u15)) H := hP
  have hf := lt_eq hw hf
  refine lv_iload hx hb dX2_placeScreen_54 (lv_at hl 0 rfl) ?_
  exact e_mi C0 (hf.symm.trans hF) hP hS dX2_placeScreen_56
noncomputable def pX2_changeSetting (b : BS) (a1 : Int32) (a2 : Int32) : Int32 × BS := lt (pX2_setting b a1) fun (x2 : Int32) => lt (pX9_put 7 1 7 (b.1 7, b.2 3) a1 0 a2) fun (u5 : TS) => (x2, bst b 3 u5)
def kX2_changeSetting (b : BS) (a1 : Int32) (a2 : Int32) : Prop := (kX2_setting b a1) ∧ (lt (pX2_setting b a1) fun (x2 : Int32) => kX9_put 7 1 7 (b.1 7, b.2 3) a1 0 a2)
abbrev rX2_changeSetting : Room := { frames := 2, cells := 0, slots := 0, locals := 43 }
set_option maxHeartbeats 4000000 in
set_option maxRecDepth 100000 in
theorem mX2_changeSetting (l : Launch) (dC : Nat → ClassId) (dI : Nat → Nat → Nat) (cI cB cO cL : ClassId) (qb : Nat → Nat) (b : BS) (a1 : Int32) (a2 : Int32) (hI : gD (fun _ => True) (bAd qb)) (hok : kX2_changeSetting b a1 a2) : Met l yX2_changeSetting wsX2_changeSetting rX2_changeSetting (cP (dC, dI) (tYS cI cB cO cL) (bw qb cI b) [.ref (qb 0), .int a1, .int a2]) (gQi (dC, dI) (fun z9 => bw qb cI z9) (wA (bw qb cI b)) (pX2_changeSetting b a1 a2)) 0 0 (wA (bw qb cI b)) := by
  refine cMet (cc := cX2_changeSetting) (maxL := 4) (ret := some .int) [(0, .ref (qb 0)), (1, .int a1), (2, .int a2)] (by decide) rfl rfl rfl ?_
  intro p e s mi below meth c C0 hK hE hP ls hl
  obtain ⟨hx, hb, hr, hml, hown, hts, hlocks⟩ := id C0
  have hown : s.vm.findClass RX2 = some mi.cls := hown
  have hS : va_S (wA (bw qb cI b)) s.heap s.heap [] := va_S.rf
  have hD : gD (wA (bw qb cI b)) (bAd qb) := gD_wA (ws := bw qb cI b) hI
  have hP : va_P (dC, dI) vwCl (bw qb cI b) s.heap := hP
  obtain ⟨F, hF⟩ : ∃ F, F = pX2_changeSetting b a1 a2 := ⟨_, rfl⟩
  have hf := hF
  have hin2 : ∀ w ∈ u_ws RX2 TX2 8, w ∈ wsX2_changeSetting := by decide +kernel
  have fl43 := hts (.fieldLink RX2 43 "ClickBench$Bench" "settings" "LClickBench$Table;") (by decide +kernel)
  refine lv_aload_n hx hb dX2_changeSetting_0 rfl (lv_at hl 0 rfl) ?_
  refine lv_iload_n hx hb dX2_changeSetting_1 rfl (lv_at hl 1 rfl) ?_
  obtain ⟨h1, hok⟩ := hok
  refine gro_i (va_runV (As := [.int a1]) (rest := []) ⟨hx, hb, hml, hown, hts⟩ (mX2_setting l dC dI cI cB cO cL qb b a1  h1) (cwV 1 hts gX2_changeSetting_X2_setting rfl rfl rfl (by decide +kernel) ⟨Nat.le_of_ble_eq_true rfl, Nat.le_of_ble_eq_true rfl⟩) ⟨cP_blind, va_recv hK hP (ci := 1) (q0 := 0) rfl rfl, cP_ok hP hK hE⟩ rfl rfl hl.1 rfl (lv_room (Nat.le_of_ble_eq_true rfl)) dX2_changeSetting_2 ⟨Nat.zero_le _, Nat.zero_le _⟩) ?_
  refine lv_topi (fun x2 ex2 => ?_)
  have hf := lt_eq ex2 hf
  have hok := lt_ok ex2 hok
  refine lv_istore_n (lv' := [(3, .int x2), (0, .ref (qb 0)), (1, .int a1), (2, .int a2)]) hx hb dX2_changeSetting_5 rfl hl (by decide) rfl (fun ls hl => ?_)
  refine lv_aload_n hx hb dX2_changeSetting_6 rfl (lv_at hl 1 rfl) ?_
  refine va_get (D := (dC, dI)) (ci := 1) (v := .ref (qb 7)) (C := RX2) (T := TX2) (N := 8) hx hb hts hin2 hown hK hP 0 rfl rfl 7 (by decide) fl43 (fun _ h9 => h9) rfl dX2_changeSetting_7 ?_
  refine lv_iload_n hx hb dX2_changeSetting_10 rfl (lv_at hl 2 rfl) ?_
  refine lv_iconst (v := 0) hx hb dX2_changeSetting_11 (by decide) ?_
  refine lv_iload_n hx hb dX2_changeSetting_12 rfl (lv_at hl 3 rfl) ?_
  have h3 : kX9_put 7 1 7 (b.1 7, b.2 3) a1 0 a2 := hok
  have hPc := hP.sub (ws' := tw (tad (qb 7) (qb 8)) cI 7 1 7 (b.1 7, b.2 3)) [7, 8] rfl
  refine gmu_v (va_runV (As := [.int a1, .int 0, .int a2]) (rest := []) ⟨hx, hb, hml, hown, hts⟩ (mX9_put l dC dI cI cB cO cL (tad (qb 7) (qb 8)) 7 1 7 (b.1 7, b.2 3) a1 0 a2 (gD_subT hD [7, 8] rfl rfl) h3) (cwV 3 hts gX2_changeSetting_X9_put rfl rfl rfl (by decide +kernel) ⟨Nat.le_of_ble_eq_true rfl, Nat.le_of_ble_eq_true rfl⟩) ⟨cP_blind, va_recv hK hPc (ci := 6) (q0 := 0) rfl rfl, cP_ok hPc hK hE⟩ rfl rfl hl.1 rfl (lv_room (Nat.le_of_ble_eq_true rfl)) dX2_changeSetting_13 ⟨Nat.zero_le _, Nat.zero_le _⟩) hP (gD_va hD rfl) hS [7, 8] rfl (fun _ => rfl) (fun u5 H locs hw hP hS => ?_)
  have hP : va_P (dC, dI) vwCl (bw qb cI (bst b 3 u5)) H := hP
  have hf := lt_eq hw hf
  refine lv_iload_n hx hb dX2_changeSetting_16 rfl (lv_at hl 0 rfl) ?_
  exact e_mi C0 (hf.symm.trans hF) hP hS dX2_changeSetting_17
noncomputable def pX2_refusalOfClick (b : BS) (a1 : Int32) (a2 : Int32) (a3 : Int32) : Int32 := if (pX11_isClickPlace a1 a2) = true then (if (pX11_isBetween a3 0 100000) = true then (if (b.1 4) = 0 then (3) else (0)) else (2)) else (2)
abbrev rX2_refusalOfClick : Room := { frames := 2, cells := 0, slots := 0, locals := 43 }
set_option maxHeartbeats 4000000 in
set_option maxRecDepth 100000 in
theorem mX2_refusalOfClick (l : Launch) (dC : Nat → ClassId) (dI : Nat → Nat → Nat) (cI cB cO cL : ClassId) (qb : Nat → Nat) (b : BS) (a1 : Int32) (a2 : Int32) (a3 : Int32) : Met l yX2_refusalOfClick wsX2_refusalOfClick rX2_refusalOfClick (cP (dC, dI) (tYS cI cB cO cL) (bw qb cI b) [.ref (qb 0), .int a1, .int a2, .int a3]) (gRi (pX2_refusalOfClick b a1 a2 a3)) 0 0 (fun _ => False) := by
  refine cMet (cc := cX2_refusalOfClick) (maxL := 4) (ret := some .int) [(0, .ref (qb 0)), (1, .int a1), (2, .int a2), (3, .int a3)] (by decide) rfl rfl rfl ?_
  intro p e s mi below meth c C0 hK hE hP ls hl
  obtain ⟨hx, hb, hr, hml, hown, hts, hlocks⟩ := id C0
  have hown : s.vm.findClass RX2 = some mi.cls := hown
  obtain ⟨F, hF⟩ : ∃ F, F = pX2_refusalOfClick b a1 a2 a3 := ⟨_, rfl⟩
  have hf := hF
  have hin2 : ∀ w ∈ u_ws RX2 TX2 8, w ∈ wsX2_refusalOfClick := by decide +kernel
  have hin9 : ∀ w ∈ u_ws RX9 TX9 4, w ∈ wsX2_refusalOfClick := by decide +kernel
  have cn90 := hts (.constant RX2 90 (100000)) (by decide +kernel)
  have fl29 := hts (.fieldLink RX2 29 "ClickBench$Bench" "microphones" "LClickBench$Table;") (by decide +kernel)
  have fl69 := hts (.fieldLink RX2 69 "ClickBench$Table" "count" "I") (by decide +kernel)
  refine lv_iload_n hx hb dX2_refusalOfClick_0 rfl (lv_at hl 1 rfl) ?_
  refine lv_iload_n hx hb dX2_refusalOfClick_1 rfl (lv_at hl 2 rfl) ?_
  refine gro_i (va_runSN (As := [.int a1, .int a2]) (rest := []) ⟨hx, hb, hml, hown, hts⟩ (mX11_isClickPlace l dC dI cI cB cO cL  a1 a2  ) ⟨va_cnB 2 hts gX2_refusalOfClick_X11_isClickPlace_n86 rfl rfl rfl (eN.at hE (own := RX2) (idx := 86) (y := yX11_isClickPlace) (host := "ClickBench") (by decide +kernel)) (hts (.initialized RX11) (by decide +kernel)) (by decide +kernel) ⟨Nat.le_of_ble_eq_true rfl, Nat.le_of_ble_eq_true rfl⟩, hts (.static yX11_isClickPlace) (by decide +kernel), trivial⟩ ⟨cP_blind, cP_ok va_P_nil hK hE⟩ rfl rfl hl.1 rfl (lv_room (Nat.le_of_ble_eq_true rfl)) dX2_refusalOfClick_2 ⟨Nat.zero_le _, Nat.zero_le _⟩) ?_
  refine lv_if_eq (tgt := 18) hx hb dX2_refusalOfClick_5 (by decide) (fun c1 => ?_) (fun c1 => ?_)
  · have c1 := bz_f c1
    have hf := ie_eq c1 hf
    refine lv_iconst (v := 2) hx hb dX2_refusalOfClick_18 (by decide) ?_
    exact e_ri C0 (hf.symm.trans hF) dX2_refusalOfClick_19
  · have c1 := bz_t c1
    have hf := it_eq c1 hf
    refine lv_iload_n hx hb dX2_refusalOfClick_8 rfl (lv_at hl 3 rfl) ?_
    refine lv_iconst (v := 0) hx hb dX2_refusalOfClick_9 (by decide) ?_
    refine lv_ldc (v := 100000) hx hb hown cn90 dX2_refusalOfClick_10 ?_
    refine gro_i (va_runSN (As := [.int a3, .int 0, .int 100000]) (rest := []) ⟨hx, hb, hml, hown, hts⟩ (mX11_isBetween l dC dI cI cB cO cL  a3 0 100000  ) ⟨va_cnB 3 hts gX2_refusalOfClick_X11_isBetween_n65 rfl rfl rfl (eN.at hE (own := RX2) (idx := 65) (y := yX11_isBetween) (host := "ClickBench") (by decide +kernel)) (hts (.initialized RX11) (by decide +kernel)) (by decide +kernel) ⟨Nat.le_of_ble_eq_true rfl, Nat.le_of_ble_eq_true rfl⟩, hts (.static yX11_isBetween) (by decide +kernel), trivial⟩ ⟨cP_blind, cP_ok va_P_nil hK hE⟩ rfl rfl hl.1 rfl (lv_room (Nat.le_of_ble_eq_true rfl)) dX2_refusalOfClick_12 ⟨Nat.zero_le _, Nat.zero_le _⟩) ?_
    refine lv_if_ne (tgt := 20) hx hb dX2_refusalOfClick_15 (by decide) (fun c2 => ?_) (fun c2 => ?_)
    · have c2 := bz_t c2
      have hf := it_eq c2 hf
      refine lv_aload_n hx hb dX2_refusalOfClick_20 rfl (lv_at hl 0 rfl) ?_
      refine va_get (D := (dC, dI)) (ci := 1) (v := .ref (qb 1)) (C := RX2) (T := TX2) (N := 8) hx hb hts hin2 hown hK hP 0 rfl rfl 4 (by decide) fl29 (fun _ h9 => h9) rfl dX2_refusalOfClick_21 ?_
      refine va_get (D := (dC, dI)) (ci := 6) (v := .int (b.1 4)) (C := RX9) (T := TX9) (N := 4) hx hb hts hin9 hown hK hP 1 rfl rfl 3 (by decide) fl69 (fun _ h9 => h9) rfl dX2_refusalOfClick_24 ?_
      refine lv_if_ne (tgt := 34) hx hb dX2_refusalOfClick_27 (by decide) (fun c3 => ?_) (fun c3 => ?_)
      · have hf := ie_eq c3 hf
        refine lv_iconst (v := 0) hx hb dX2_refusalOfClick_34 (by decide) ?_
        exact e_ri C0 (hf.symm.trans hF) dX2_refusalOfClick_35
      · have hf := it_eq c3 hf
        refine lv_iconst (v := 3) hx hb dX2_refusalOfClick_30 (by decide) ?_
        refine lv_goto (tgt := 35) hx hb dX2_refusalOfClick_31 (by decide) ?_
        exact e_ri C0 (hf.symm.trans hF) dX2_refusalOfClick_35
    · have c2 := bz_f c2
      have hf := ie_eq c2 hf
      refine lv_iconst (v := 2) hx hb dX2_refusalOfClick_18 (by decide) ?_
      exact e_ri C0 (hf.symm.trans hF) dX2_refusalOfClick_19
noncomputable def pX2_hasNoted (b : BS) (a1 : Int32) : Bool := if (pX9_at 8 9 72 (b.1 4, b.2 0) a1 4) = (-1000000000) then (false) else (true)
def kX2_hasNoted (b : BS) (a1 : Int32) : Prop := kX9_at 8 9 72 (b.1 4, b.2 0) a1 4
abbrev rX2_hasNoted : Room := { frames := 1, cells := 0, slots := 0, locals := 22 }
set_option maxHeartbeats 4000000 in
set_option maxRecDepth 100000 in
theorem mX2_hasNoted (l : Launch) (dC : Nat → ClassId) (dI : Nat → Nat → Nat) (cI cB cO cL : ClassId) (qb : Nat → Nat) (b : BS) (a1 : Int32) (hok : kX2_hasNoted b a1) : Met l yX2_hasNoted wsX2_hasNoted rX2_hasNoted (cP (dC, dI) (tYS cI cB cO cL) (bw qb cI b) [.ref (qb 0), .int a1]) (gRz (pX2_hasNoted b a1)) 0 0 (fun _ => False) := by
  refine cMet (cc := cX2_hasNoted) (maxL := 2) (ret := some .boolean) [(0, .ref (qb 0)), (1, .int a1)] (by decide) rfl rfl rfl ?_
  intro p e s mi below meth c C0 hK hE hP ls hl
  obtain ⟨hx, hb, hr, hml, hown, hts, hlocks⟩ := id C0
  have hown : s.vm.findClass RX2 = some mi.cls := hown
  obtain ⟨F, hF⟩ : ∃ F, F = pX2_hasNoted b a1 := ⟨_, rfl⟩
  have hf := hF
  have hin2 : ∀ w ∈ u_ws RX2 TX2 8, w ∈ wsX2_hasNoted := by decide +kernel
  have fl29 := hts (.fieldLink RX2 29 "ClickBench$Bench" "microphones" "LClickBench$Table;") (by decide +kernel)
  have cn91 := hts (.constant RX2 91 (-1000000000)) (by decide +kernel)
  refine lv_aload_n hx hb dX2_hasNoted_0 rfl (lv_at hl 0 rfl) ?_
  refine va_get (D := (dC, dI)) (ci := 1) (v := .ref (qb 1)) (C := RX2) (T := TX2) (N := 8) hx hb hts hin2 hown hK hP 0 rfl rfl 4 (by decide) fl29 (fun _ h9 => h9) rfl dX2_hasNoted_1 ?_
  refine lv_iload_n hx hb dX2_hasNoted_4 rfl (lv_at hl 1 rfl) ?_
  refine lv_iconst (v := 4) hx hb dX2_hasNoted_5 (by decide) ?_
  have h1 : kX9_at 8 9 72 (b.1 4, b.2 0) a1 4 := hok
  have hPc := hP.sub (ws' := tw (tad (qb 1) (qb 2)) cI 8 9 72 (b.1 4, b.2 0)) [1, 2] rfl
  refine gro_i (va_runV (As := [.int a1, .int 4]) (rest := []) ⟨hx, hb, hml, hown, hts⟩ (mX9_at l dC dI cI cB cO cL (tad (qb 1) (qb 2)) 8 9 72 (b.1 4, b.2 0) a1 4  h1) (cwV 2 hts gX2_hasNoted_X9_at rfl rfl rfl (by decide +kernel) ⟨Nat.le_of_ble_eq_true rfl, Nat.le_of_ble_eq_true rfl⟩) ⟨cP_blind, va_recv hK hPc (ci := 6) (q0 := 0) rfl rfl, cP_ok hPc hK hE⟩ rfl rfl hl.1 rfl (lv_room (Nat.le_of_ble_eq_true rfl)) dX2_hasNoted_6 ⟨Nat.zero_le _, Nat.zero_le _⟩) ?_
  refine lv_ldc (v := (-1000000000)) hx hb hown cn91 dX2_hasNoted_9 ?_
  refine lv_icmp_eq (tgt := 18) hx hb dX2_hasNoted_11 (by decide) (fun c2 => ?_) (fun c2 => ?_)
  · have hf := it_eq c2 hf
    refine lv_iconst (v := 0) hx hb dX2_hasNoted_18 (by decide) ?_
    exact e_rz C0 (b := false) rfl (hf.symm.trans hF) dX2_hasNoted_19
  · have hf := ie_eq c2 hf
    refine lv_iconst (v := 1) hx hb dX2_hasNoted_14 (by decide) ?_
    refine lv_goto (tgt := 19) hx hb dX2_hasNoted_15 (by decide) ?_
    exact e_rz C0 (b := true) rfl (hf.symm.trans hF) dX2_hasNoted_19
noncomputable def pX2_cellCount (b : BS) : Int32 := (b.1 0) * (b.1 1)
abbrev rX2_cellCount : Room := { frames := 0, cells := 0, slots := 0, locals := 0 }
set_option maxHeartbeats 4000000 in
set_option maxRecDepth 100000 in
theorem mX2_cellCount (l : Launch) (dC : Nat → ClassId) (dI : Nat → Nat → Nat) (cI cB cO cL : ClassId) (qb : Nat → Nat) (b : BS) : Met l yX2_cellCount wsX2_cellCount rX2_cellCount (cP (dC, dI) (tYS cI cB cO cL) (bw qb cI b) [.ref (qb 0)]) (gRi (pX2_cellCount b)) 0 0 (fun _ => False) := by
  refine cMet (cc := cX2_cellCount) (maxL := 1) (ret := some .int) [(0, .ref (qb 0))] (by decide) rfl rfl rfl ?_
  intro p e s mi below meth c C0 hK hE hP ls hl
  obtain ⟨hx, hb, hr, hml, hown, hts, hlocks⟩ := id C0
  have hown : s.vm.findClass RX2 = some mi.cls := hown
  obtain ⟨F, hF⟩ : ∃ F, F = pX2_cellCount b := ⟨_, rfl⟩
  have hf := hF
  have hin2 : ∀ w ∈ u_ws RX2 TX2 8, w ∈ wsX2_cellCount := by decide +kernel
  have fl9 := hts (.fieldLink RX2 9 "ClickBench$Bench" "columns" "I") (by decide +kernel)
  have fl15 := hts (.fieldLink RX2 15 "ClickBench$Bench" "rows" "I") (by decide +kernel)
  refine lv_aload_n hx hb dX2_cellCount_0 rfl (lv_at hl 0 rfl) ?_
  refine va_get (D := (dC, dI)) (ci := 1) (v := .int (b.1 0)) (C := RX2) (T := TX2) (N := 8) hx hb hts hin2 hown hK hP 0 rfl rfl 0 (by decide) fl9 (fun _ h9 => h9) rfl dX2_cellCount_1 ?_
  refine lv_aload_n hx hb dX2_cellCount_4 rfl (lv_at hl 0 rfl) ?_
  refine va_get (D := (dC, dI)) (ci := 1) (v := .int (b.1 1)) (C := RX2) (T := TX2) (N := 8) hx hb hts hin2 hown hK hP 0 rfl rfl 1 (by decide) fl15 (fun _ h9 => h9) rfl dX2_cellCount_5 ?_
  refine lv_imul hx hb dX2_cellCount_8 ?_
  exact e_ri C0 (hf.symm.trans hF) dX2_cellCount_9
noncomputable def pX2_hasCell (b : BS) (a1 : Int32) : Bool := if a1 < 0 then (false) else (if (pX2_cellCount b) ≤ a1 then (false) else (true))
abbrev rX2_hasCell : Room := { frames := 1, cells := 0, slots := 0, locals := 20 }
noncomputable def pX2_columnOf (b : BS) (a1 : Int32) : Int32 := if 1 ≤ (b.1 0) then (a1 - a1 / (b.1 0) * (b.1 0)) else (0)
def kX2_columnOf (b : BS) (a1 : Int32) : Prop := if 1 ≤ (b.1 0) then (¬ (b.1 0) = 0) else (True)
abbrev rX2_columnOf : Room := { frames := 0, cells := 0, slots := 0, locals := 0 }
set_option maxHeartbeats 4000000 in
set_option maxRecDepth 100000 in
theorem mX2_columnOf (l : Launch) (dC : Nat → ClassId) (dI : Nat → Nat → Nat) (cI cB cO cL : ClassId) (qb : Nat → Nat) (b : BS) (a1 : Int32) (hok : kX2_columnOf b a1) : Met l yX2_columnOf wsX2_columnOf rX2_columnOf (cP (dC, dI) (tYS cI cB cO cL) (bw qb cI b) [.ref (qb 0), .int a1]) (gRi (pX2_columnOf b a1)) 0 0 (fun _ => False) := by
  refine cMet (cc := cX2_columnOf) (maxL := 2) (ret := some .int) [(0, .ref (qb 0)), (1, .int a1)] (by decide) rfl rfl rfl ?_
  intro p e s mi below meth c C0 hK hE hP ls hl
  obtain ⟨hx, hb, hr, hml, hown, hts, hlocks⟩ := id C0
  have hown : s.vm.findClass RX2 = some mi.cls := hown
  obtain ⟨F, hF⟩ : ∃ F, F = pX2_columnOf b a1 := ⟨_, rfl⟩
  have hf := hF
  have hin2 : ∀ w ∈ u_ws RX2 TX2 8, w ∈ wsX2_columnOf := by decide +kernel
  have fl9 := hts (.fieldLink RX2 9 "ClickBench$Bench" "columns" "I") (by decide +kernel)
  refine lv_aload_n hx hb dX2_columnOf_0 rfl (lv_at hl 0 rfl) ?_
  refine va_get (D := (dC, dI)) (ci := 1) (v := .int (b.1 0)) (C := RX2) (T := TX2) (N := 8) hx hb hts hin2 hown hK hP 0 rfl rfl 0 (by decide) fl9 (fun _ h9 => h9) rfl dX2_columnOf_1 ?_
  refine lv_iconst (v := 1) hx hb dX2_columnOf_4 (by decide) ?_
  refine lv_icmp_ge (tgt := 12) hx hb dX2_columnOf_5 (by decide) (fun c1 => ?_) (fun c1 => ?_)
  · have hf := it_eq c1 hf
    have hok := it_ok c1 hok
    refine lv_iload_n hx hb dX2_columnOf_12 rfl (lv_at hl 1 rfl) ?_
    refine lv_aload_n hx hb dX2_columnOf_13 rfl (lv_at hl 0 rfl) ?_
    refine va_get (D := (dC, dI)) (ci := 1) (v := .int (b.1 0)) (C := RX2) (T := TX2) (N := 8) hx hb hts hin2 hown hK hP 0 rfl rfl 0 (by decide) fl9 (fun _ h9 => h9) rfl dX2_columnOf_14 ?_
    have h2 : ¬ (b.1 0) = 0 := hok
    refine lv_irem hx hb dX2_columnOf_17 h2 ?_
    exact e_ri C0 (hf.symm.trans hF) dX2_columnOf_18
  · have hf := ie_eq c1 hf
    refine lv_iconst (v := 0) hx hb dX2_columnOf_8 (by decide) ?_
    refine lv_goto (tgt := 18) hx hb dX2_columnOf_9 (by decide) ?_
    exact e_ri C0 (hf.symm.trans hF) dX2_columnOf_18
noncomputable def pX2_rowOf (b : BS) (a1 : Int32) : Int32 := if 1 ≤ (b.1 0) then (a1 / (b.1 0)) else (0)
def kX2_rowOf (b : BS) (a1 : Int32) : Prop := if 1 ≤ (b.1 0) then (¬ (b.1 0) = 0) else (True)
abbrev rX2_rowOf : Room := { frames := 0, cells := 0, slots := 0, locals := 0 }
set_option maxHeartbeats 4000000 in
set_option maxRecDepth 100000 in
theorem mX2_rowOf (l : Launch) (dC : Nat → ClassId) (dI : Nat → Nat → Nat) (cI cB cO cL : ClassId) (qb : Nat → Nat) (b : BS) (a1 : Int32) (hok : kX2_rowOf b a1) : Met l yX2_rowOf wsX2_rowOf rX2_rowOf (cP (dC, dI) (tYS cI cB cO cL) (bw qb cI b) [.ref (qb 0), .int a1]) (gRi (pX2_rowOf b a1)) 0 0 (fun _ => False) := by
  refine cMet (cc := cX2_rowOf) (maxL := 2) (ret := some .int) [(0, .ref (qb 0)), (1, .int a1)] (by decide) rfl rfl rfl ?_
  intro p e s mi below meth c C0 hK hE hP ls hl
  obtain ⟨hx, hb, hr, hml, hown, hts, hlocks⟩ := id C0
  have hown : s.vm.findClass RX2 = some mi.cls := hown
  obtain ⟨F, hF⟩ : ∃ F, F = pX2_rowOf b a1 := ⟨_, rfl⟩
  have hf := hF
  have hin2 : ∀ w ∈ u_ws RX2 TX2 8, w ∈ wsX2_rowOf := by decide +kernel
  have fl9 := hts (.fieldLink RX2 9 "ClickBench$Bench" "columns" "I") (by decide +kernel)
  refine lv_aload_n hx hb dX2_rowOf_0 rfl (lv_at hl 0 rfl) ?_
  refine va_get (D := (dC, dI)) (ci := 1) (v := .int (b.1 0)) (C := RX2) (T := TX2) (N := 8) hx hb hts hin2 hown hK hP 0 rfl rfl 0 (by decide) fl9 (fun _ h9 => h9) rfl dX2_rowOf_1 ?_
  refine lv_iconst (v := 1) hx hb dX2_rowOf_4 (by decide) ?_
  refine lv_icmp_ge (tgt := 12) hx hb dX2_rowOf_5 (by decide) (fun c1 => ?_) (fun c1 => ?_)
  · have hf := it_eq c1 hf
    have hok := it_ok c1 hok
    refine lv_iload_n hx hb dX2_rowOf_12 rfl (lv_at hl 1 rfl) ?_
    refine lv_aload_n hx hb dX2_rowOf_13 rfl (lv_at hl 0 rfl) ?_
    refine va_get (D := (dC, dI)) (ci := 1) (v := .int (b.1 0)) (C := RX2) (T := TX2) (N := 8) hx hb hts hin2 hown hK hP 0 rfl rfl 0 (by decide) fl9 (fun _ h9 => h9) rfl dX2_rowOf_14 ?_
    have h2 : ¬ (b.1 0) = 0 := hok
    refine lv_idiv hx hb dX2_rowOf_17 h2 ?_
    exact e_ri C0 (hf.symm.trans hF) dX2_rowOf_18
  · have hf := ie_eq c1 hf
    refine lv_iconst (v := 0) hx hb dX2_rowOf_8 (by decide) ?_
    refine lv_goto (tgt := 18) hx hb dX2_rowOf_9 (by decide) ?_
    exact e_ri C0 (hf.symm.trans hF) dX2_rowOf_18
noncomputable def pX2_wayTo (b : BS) (a1 : Int32) (a2 : Int32) (a3 : Int32) : Int32 := pX7_way ((pX9_at 8 9 72 (b.1 4, b.2 0) a1 0) - a2) ((pX9_at 8 9 72 (b.1 4, b.2 0) a1 1) - a3)
def kX2_wayTo (b : BS) (a1 : Int32) (a2 : Int32) (a3 : Int32) : Prop := (kX9_at 8 9 72 (b.1 4, b.2 0) a1 0) ∧ ((kX9_at 8 9 72 (b.1 4, b.2 0) a1 1) ∧ (kX7_way ((pX9_at 8 9 72 (b.1 4, b.2 0) a1 0) - a2) ((pX9_at 8 9 72 (b.1 4, b.2 0) a1 1) - a3)))
abbrev rX2_wayTo : Room := { frames := 1, cells := 0, slots := 0, locals := 27 }
set_option maxHeartbeats 4000000 in
set_option maxRecDepth 100000 in
theorem mX2_wayTo (l : Launch) (dC : Nat → ClassId) (dI : Nat → Nat → Nat) (cI cB cO cL : ClassId) (qb : Nat → Nat) (b : BS) (a1 : Int32) (a2 : Int32) (a3 : Int32) (hok : kX2_wayTo b a1 a2 a3) : Met l yX2_wayTo wsX2_wayTo rX2_wayTo (cP (dC, dI) (tYS cI cB cO cL) (bw qb cI b) [.ref (qb 0), .int a1, .int a2, .int a3]) (gRi (pX2_wayTo b a1 a2 a3)) 0 0 (fun _ => False) := by
  refine cMet (cc := cX2_wayTo) (maxL := 4) (ret := some .int) [(0, .ref (qb 0)), (1, .int a1), (2, .int a2), (3, .int a3)] (by decide) rfl rfl rfl ?_
  intro p e s mi below meth c C0 hK hE hP ls hl
  obtain ⟨hx, hb, hr, hml, hown, hts, hlocks⟩ := id C0
  have hown : s.vm.findClass RX2 = some mi.cls := hown
  obtain ⟨F, hF⟩ : ∃ F, F = pX2_wayTo b a1 a2 a3 := ⟨_, rfl⟩
  have hf := hF
  have hin2 : ∀ w ∈ u_ws RX2 TX2 8, w ∈ wsX2_wayTo := by decide +kernel
  have fl29 := hts (.fieldLink RX2 29 "ClickBench$Bench" "microphones" "LClickBench$Table;") (by decide +kernel)
  refine lv_aload_n hx hb dX2_wayTo_0 rfl (lv_at hl 0 rfl) ?_
  refine va_get (D := (dC, dI)) (ci := 1) (v := .ref (qb 1)) (C := RX2) (T := TX2) (N := 8) hx hb hts hin2 hown hK hP 0 rfl rfl 4 (by decide) fl29 (fun _ h9 => h9) rfl dX2_wayTo_1 ?_
  refine lv_iload_n hx hb dX2_wayTo_4 rfl (lv_at hl 1 rfl) ?_
  refine lv_iconst (v := 0) hx hb dX2_wayTo_5 (by decide) ?_
  obtain ⟨h1, hok⟩ := hok
  have hPc := hP.sub (ws' := tw (tad (qb 1) (qb 2)) cI 8 9 72 (b.1 4, b.2 0)) [1, 2] rfl
  refine gro_i (va_runV (As := [.int a1, .int 0]) (rest := []) ⟨hx, hb, hml, hown, hts⟩ (mX9_at l dC dI cI cB cO cL (tad (qb 1) (qb 2)) 8 9 72 (b.1 4, b.2 0) a1 0  h1) (cwV 2 hts gX2_wayTo_X9_at rfl rfl rfl (by decide +kernel) ⟨Nat.le_of_ble_eq_true rfl, Nat.le_of_ble_eq_true rfl⟩) ⟨cP_blind, va_recv hK hPc (ci := 6) (q0 := 0) rfl rfl, cP_ok hPc hK hE⟩ rfl rfl hl.1 rfl (lv_room (Nat.le_of_ble_eq_true rfl)) dX2_wayTo_6 ⟨Nat.zero_le _, Nat.zero_le _⟩) ?_
  refine lv_iload_n hx hb dX2_wayTo_9 rfl (lv_at hl 2 rfl) ?_
  refine lv_isub hx hb dX2_wayTo_10 ?_
  refine lv_aload_n hx hb dX2_wayTo_11 rfl (lv_at hl 0 rfl) ?_
  refine va_get (D := (dC, dI)) (ci := 1) (v := .ref (qb 1)) (C := RX2) (T := TX2) (N := 8) hx hb hts hin2 hown hK hP 0 rfl rfl 4 (by decide) fl29 (fun _ h9 => h9) rfl dX2_wayTo_12 ?_
  refine lv_iload_n hx hb dX2_wayTo_15 rfl (lv_at hl 1 rfl) ?_
  refine lv_iconst (v := 1) hx hb dX2_wayTo_16 (by decide) ?_
  obtain ⟨h2, hok⟩ := hok
  have hPc := hP.sub (ws' := tw (tad (qb 1) (qb 2)) cI 8 9 72 (b.1 4, b.2 0)) [1, 2] rfl
  refine gro_i (va_runV (As := [.int a1, .int 1]) (rest := [.int ((pX9_at 8 9 72 (b.1 4, b.2 0) a1 0) - a2)]) ⟨hx, hb, hml, hown, hts⟩ (mX9_at l dC dI cI cB cO cL (tad (qb 1) (qb 2)) 8 9 72 (b.1 4, b.2 0) a1 1  h2) (cwV 2 hts gX2_wayTo_X9_at rfl rfl rfl (by decide +kernel) ⟨Nat.le_of_ble_eq_true rfl, Nat.le_of_ble_eq_true rfl⟩) ⟨cP_blind, va_recv hK hPc (ci := 6) (q0 := 0) rfl rfl, cP_ok hPc hK hE⟩ rfl rfl hl.1 rfl (lv_room (Nat.le_of_ble_eq_true rfl)) dX2_wayTo_17 ⟨Nat.zero_le _, Nat.zero_le _⟩) ?_
  refine lv_iload_n hx hb dX2_wayTo_20 rfl (lv_at hl 3 rfl) ?_
  refine lv_isub hx hb dX2_wayTo_21 ?_
  have h3 : kX7_way ((pX9_at 8 9 72 (b.1 4, b.2 0) a1 0) - a2) ((pX9_at 8 9 72 (b.1 4, b.2 0) a1 1) - a3) := hok
  refine gro_i (va_runS (As := [.int ((pX9_at 8 9 72 (b.1 4, b.2 0) a1 0) - a2), .int ((pX9_at 8 9 72 (b.1 4, b.2 0) a1 1) - a3)]) (rest := []) ⟨hx, hb, hml, hown, hts⟩ (mX7_way l dC dI cI cB cO cL  ((pX9_at 8 9 72 (b.1 4, b.2 0) a1 0) - a2) ((pX9_at 8 9 72 (b.1 4, b.2 0) a1 1) - a3)  h3) (va_cwS 2 hts gX2_wayTo_X7_way rfl rfl rfl (by decide +kernel) ⟨Nat.le_of_ble_eq_true rfl, Nat.le_of_ble_eq_true rfl⟩) ⟨cP_blind, cP_ok va_P_nil hK hE⟩ rfl rfl hl.1 rfl (lv_room (Nat.le_of_ble_eq_true rfl)) dX2_wayTo_22 ⟨Nat.zero_le _, Nat.zero_le _⟩) ?_
  exact e_ri C0 (hf.symm.trans hF) dX2_wayTo_25
noncomputable def pX2_timeFor (b : BS) (a1 : Int32) : Int32 := lt (pX9_at 7 1 7 (b.1 7, b.2 3) 0 0) fun (x2 : Int32) => if 1 ≤ x2 then ((a1 * 1000) / x2) else (0)
def kX2_timeFor (b : BS) (a1 : Int32) : Prop := (kX9_at 7 1 7 (b.1 7, b.2 3) 0 0) ∧ (lt (pX9_at 7 1 7 (b.1 7, b.2 3) 0 0) fun (x2 : Int32) => if 1 ≤ x2 then (¬ x2 = 0) else (True))
abbrev rX2_timeFor : Room := { frames := 1, cells := 0, slots := 0, locals := 22 }
set_option maxHeartbeats 4000000 in
set_option maxRecDepth 100000 in
theorem mX2_timeFor (l : Launch) (dC : Nat → ClassId) (dI : Nat → Nat → Nat) (cI cB cO cL : ClassId) (qb : Nat → Nat) (b : BS) (a1 : Int32) (hok : kX2_timeFor b a1) : Met l yX2_timeFor wsX2_timeFor rX2_timeFor (cP (dC, dI) (tYS cI cB cO cL) (bw qb cI b) [.ref (qb 0), .int a1]) (gRi (pX2_timeFor b a1)) 0 0 (fun _ => False) := by
  refine cMet (cc := cX2_timeFor) (maxL := 3) (ret := some .int) [(0, .ref (qb 0)), (1, .int a1)] (by decide) rfl rfl rfl ?_
  intro p e s mi below meth c C0 hK hE hP ls hl
  obtain ⟨hx, hb, hr, hml, hown, hts, hlocks⟩ := id C0
  have hown : s.vm.findClass RX2 = some mi.cls := hown
  obtain ⟨F, hF⟩ : ∃ F, F = pX2_timeFor b a1 := ⟨_, rfl⟩
  have hf := hF
  have hin2 : ∀ w ∈ u_ws RX2 TX2 8, w ∈ wsX2_timeFor := by decide +kernel
  have fl43 := hts (.fieldLink RX2 43 "ClickBench$Bench" "settings" "LClickBench$Table;") (by decide +kernel)
  refine lv_aload_n hx hb dX2_timeFor_0 rfl (lv_at hl 0 rfl) ?_
  refine va_get (D := (dC, dI)) (ci := 1) (v := .ref (qb 7)) (C := RX2) (T := TX2) (N := 8) hx hb hts hin2 hown hK hP 0 rfl rfl 7 (by decide) fl43 (fun _ h9 => h9) rfl dX2_timeFor_1 ?_
  refine lv_iconst (v := 0) hx hb dX2_timeFor_4 (by decide) ?_
  refine lv_iconst (v := 0) hx hb dX2_timeFor_5 (by decide) ?_
  obtain ⟨h1, hok⟩ := hok
  have hPc := hP.sub (ws' := tw (tad (qb 7) (qb 8)) cI 7 1 7 (b.1 7, b.2 3)) [7, 8] rfl
  refine gro_i (va_runV (As := [.int 0, .int 0]) (rest := []) ⟨hx, hb, hml, hown, hts⟩ (mX9_at l dC dI cI cB cO cL (tad (qb 7) (qb 8)) 7 1 7 (b.1 7, b.2 3) 0 0  h1) (cwV 2 hts gX2_timeFor_X9_at rfl rfl rfl (by decide +kernel) ⟨Nat.le_of_ble_eq_true rfl, Nat.le_of_ble_eq_true rfl⟩) ⟨cP_blind, va_recv hK hPc (ci := 6) (q0 := 0) rfl rfl, cP_ok hPc hK hE⟩ rfl rfl hl.1 rfl (lv_room (Nat.le_of_ble_eq_true rfl)) dX2_timeFor_6 ⟨Nat.zero_le _, Nat.zero_le _⟩) ?_
  refine lv_topi (fun x2 ex2 => ?_)
  have hf := lt_eq ex2 hf
  have hok := lt_ok ex2 hok
  refine lv_istore_n (lv' := [(2, .int x2), (0, .ref (qb 0)), (1, .int a1)]) hx hb dX2_timeFor_9 rfl hl (by decide) rfl (fun ls hl => ?_)
  refine lv_iload_n hx hb dX2_timeFor_10 rfl (lv_at hl 0 rfl) ?_
  refine lv_iconst (v := 1) hx hb dX2_timeFor_11 (by decide) ?_
  refine lv_icmp_ge (tgt := 19) hx hb dX2_timeFor_12 (by decide) (fun c3 => ?_) (fun c3 => ?_)
  · have hf := it_eq c3 hf
    have hok := it_ok c3 hok
    refine lv_iload_n hx hb dX2_timeFor_19 rfl (lv_at hl 2 rfl) ?_
    refine lv_sipush (v := 1000) hx hb dX2_timeFor_20 (by decide) ?_
    refine lv_imul hx hb dX2_timeFor_23 ?_
    refine lv_iload_n hx hb dX2_timeFor_24 rfl (lv_at hl 0 rfl) ?_
    have h4 : ¬ x2 = 0 := hok
    refine lv_idiv hx hb dX2_timeFor_25 h4 ?_
    exact e_ri C0 (hf.symm.trans hF) dX2_timeFor_26
  · have hf := ie_eq c3 hf
    refine lv_iconst (v := 0) hx hb dX2_timeFor_15 (by decide) ?_
    refine lv_goto (tgt := 26) hx hb dX2_timeFor_16 (by decide) ?_
    exact e_ri C0 (hf.symm.trans hF) dX2_timeFor_26
noncomputable def pX2_timeFromCell (b : BS) (a1 : Int32) (a2 : Int32) : Int32 := pX2_timeFor b (pX2_wayTo b a2 ((100 * (pX2_columnOf b a1)) + 50) ((100 * (pX2_rowOf b a1)) + 50))
def kX2_timeFromCell (b : BS) (a1 : Int32) (a2 : Int32) : Prop := (kX2_columnOf b a1) ∧ ((kX2_rowOf b a1) ∧ ((kX2_wayTo b a2 ((100 * (pX2_columnOf b a1)) + 50) ((100 * (pX2_rowOf b a1)) + 50)) ∧ (kX2_timeFor b (pX2_wayTo b a2 ((100 * (pX2_columnOf b a1)) + 50) ((100 * (pX2_rowOf b a1)) + 50)))))
abbrev rX2_timeFromCell : Room := { frames := 2, cells := 0, slots := 0, locals := 50 }
set_option maxHeartbeats 4000000 in
set_option maxRecDepth 100000 in
theorem mX2_timeFromCell (l : Launch) (dC : Nat → ClassId) (dI : Nat → Nat → Nat) (cI cB cO cL : ClassId) (qb : Nat → Nat) (b : BS) (a1 : Int32) (a2 : Int32) (hok : kX2_timeFromCell b a1 a2) : Met l yX2_timeFromCell wsX2_timeFromCell rX2_timeFromCell (cP (dC, dI) (tYS cI cB cO cL) (bw qb cI b) [.ref (qb 0), .int a1, .int a2]) (gRi (pX2_timeFromCell b a1 a2)) 0 0 (fun _ => False) := by
  refine cMet (cc := cX2_timeFromCell) (maxL := 3) (ret := some .int) [(0, .ref (qb 0)), (1, .int a1), (2, .int a2)] (by decide) rfl rfl rfl ?_
  intro p e s mi below meth c C0 hK hE hP ls hl
  obtain ⟨hx, hb, hr, hml, hown, hts, hlocks⟩ := id C0
  have hown : s.vm.findClass RX2 = some mi.cls := hown
  obtain ⟨F, hF⟩ : ∃ F, F = pX2_timeFromCell b a1 a2 := ⟨_, rfl⟩
  have hf := hF
  refine lv_aload_n hx hb dX2_timeFromCell_0 rfl (lv_at hl 0 rfl) ?_
  refine lv_aload_n hx hb dX2_timeFromCell_1 rfl (lv_at hl 0 rfl) ?_
  refine lv_iload_n hx hb dX2_timeFromCell_2 rfl (lv_at hl 2 rfl) ?_
  refine lv_bipush (v := 100) hx hb dX2_timeFromCell_3 (by decide) ?_
  refine lv_aload_n hx hb dX2_timeFromCell_5 rfl (lv_at hl 0 rfl) ?_
  refine lv_iload_n hx hb dX2_timeFromCell_6 rfl (lv_at hl 1 rfl) ?_
  obtain ⟨h1, hok⟩ := hok
  refine gro_i (va_runV (As := [.int a1]) (rest := [.int 100, .int a2, .ref (qb 0), .ref (qb 0)]) ⟨hx, hb, hml, hown, hts⟩ (mX2_columnOf l dC dI cI cB cO cL qb b a1  h1) (cwV 1 hts gX2_timeFromCell_X2_columnOf rfl rfl rfl (by decide +kernel) ⟨Nat.le_of_ble_eq_true rfl, Nat.le_of_ble_eq_true rfl⟩) ⟨cP_blind, va_recv hK hP (ci := 1) (q0 := 0) rfl rfl, cP_ok hP hK hE⟩ rfl rfl hl.1 rfl (lv_room (Nat.le_of_ble_eq_true rfl)) dX2_timeFromCell_7 ⟨Nat.zero_le _, Nat.zero_le _⟩) ?_
  refine lv_imul hx hb dX2_timeFromCell_10 ?_
  refine lv_bipush (v := 50) hx hb dX2_timeFromCell_11 (by decide) ?_
  refine lv_iadd hx hb dX2_timeFromCell_13 ?_
  refine lv_bipush (v := 100) hx hb dX2_timeFromCell_14 (by decide) ?_
  refine lv_aload_n hx hb dX2_timeFromCell_16 rfl (lv_at hl 0 rfl) ?_
  refine lv_iload_n hx hb dX2_timeFromCell_17 rfl (lv_at hl 1 rfl) ?_
  obtain ⟨h2, hok⟩ := hok
  refine gro_i (va_runV (As := [.int a1]) (rest := [.int 100, .int ((100 * (pX2_columnOf b a1)) + 50), .int a2, .ref (qb 0), .ref (qb 0)]) ⟨hx, hb, hml, hown, hts⟩ (mX2_rowOf l dC dI cI cB cO cL qb b a1  h2) (cwV 1 hts gX2_timeFromCell_X2_rowOf rfl rfl rfl (by decide +kernel) ⟨Nat.le_of_ble_eq_true rfl, Nat.le_of_ble_eq_true rfl⟩) ⟨cP_blind, va_recv hK hP (ci := 1) (q0 := 0) rfl rfl, cP_ok hP hK hE⟩ rfl rfl hl.1 rfl (lv_room (Nat.le_of_ble_eq_true rfl)) dX2_timeFromCell_18 ⟨Nat.zero_le _, Nat.zero_le _⟩) ?_
  refine lv_imul hx hb dX2_timeFromCell_21 ?_
  refine lv_bipush (v := 50) hx hb dX2_timeFromCell_22 (by decide) ?_
  refine lv_iadd hx hb dX2_timeFromCell_24 ?_
  obtain ⟨h3, hok⟩ := hok
  refine gro_i (va_runV (As := [.int a2, .int ((100 * (pX2_columnOf b a1)) + 50), .int ((100 * (pX2_rowOf b a1)) + 50)]) (rest := [.ref (qb 0)]) ⟨hx, hb, hml, hown, hts⟩ (mX2_wayTo l dC dI cI cB cO cL qb b a2 ((100 * (pX2_columnOf b a1)) + 50) ((100 * (pX2_rowOf b a1)) + 50)  h3) (cwV 3 hts gX2_timeFromCell_X2_wayTo rfl rfl rfl (by decide +kernel) ⟨Nat.le_of_ble_eq_true rfl, Nat.le_of_ble_eq_true rfl⟩) ⟨cP_blind, va_recv hK hP (ci := 1) (q0 := 0) rfl rfl, cP_ok hP hK hE⟩ rfl rfl hl.1 rfl (lv_room (Nat.le_of_ble_eq_true rfl)) dX2_timeFromCell_25 ⟨Nat.zero_le _, Nat.zero_le _⟩) ?_
  have h4 : kX2_timeFor b (pX2_wayTo b a2 ((100 * (pX2_columnOf b a1)) + 50) ((100 * (pX2_rowOf b a1)) + 50)) := hok
  refine gro_i (va_runV (As := [.int (pX2_wayTo b a2 ((100 * (pX2_columnOf b a1)) + 50) ((100 * (pX2_rowOf b a1)) + 50))]) (rest := []) ⟨hx, hb, hml, hown, hts⟩ (mX2_timeFor l dC dI cI cB cO cL qb b (pX2_wayTo b a2 ((100 * (pX2_columnOf b a1)) + 50) ((100 * (pX2_rowOf b a1)) + 50))  h4) (cwV 1 hts gX2_timeFromCell_X2_timeFor rfl rfl rfl (by decide +kernel) ⟨Nat.le_of_ble_eq_true rfl, Nat.le_of_ble_eq_true rfl⟩) ⟨cP_blind, va_recv hK hP (ci := 1) (q0 := 0) rfl rfl, cP_ok hP hK hE⟩ rfl rfl hl.1 rfl (lv_room (Nat.le_of_ble_eq_true rfl)) dX2_timeFromCell_28 ⟨Nat.zero_le _, Nat.zero_le _⟩) ?_
  exact e_ri C0 (hf.symm.trans hF) dX2_timeFromCell_31
noncomputable def pX2_strengthBehind (b : BS) (a1 : Int32) (a2 : Int32) : Int32 := if (pX9_has 4 3 12 (b.1 5, b.2 1) a1) = true then ((a2 * (100 - (pX9_at 4 3 12 (b.1 5, b.2 1) a1 2))) / 100) else (a2)
def kX2_strengthBehind (b : BS) (a1 : Int32) (a2 : Int32) : Prop := if (pX9_has 4 3 12 (b.1 5, b.2 1) a1) = true then (kX9_at 4 3 12 (b.1 5, b.2 1) a1 2) else (True)
abbrev rX2_strengthBehind : Room := { frames := 1, cells := 0, slots := 0, locals := 22 }
set_option maxHeartbeats 4000000 in
set_option maxRecDepth 100000 in
theorem mX2_strengthBehind (l : Launch) (dC : Nat → ClassId) (dI : Nat → Nat → Nat) (cI cB cO cL : ClassId) (qb : Nat → Nat) (b : BS) (a1 : Int32) (a2 : Int32) (hok : kX2_strengthBehind b a1 a2) : Met l yX2_strengthBehind wsX2_strengthBehind rX2_strengthBehind (cP (dC, dI) (tYS cI cB cO cL) (bw qb cI b) [.ref (qb 0), .int a1, .int a2]) (gRi (pX2_strengthBehind b a1 a2)) 0 0 (fun _ => False) := by
  refine cMet (cc := cX2_strengthBehind) (maxL := 3) (ret := some .int) [(0, .ref (qb 0)), (1, .int a1), (2, .int a2)] (by decide) rfl rfl rfl ?_
  intro p e s mi below meth c C0 hK hE hP ls hl
  obtain ⟨hx, hb, hr, hml, hown, hts, hlocks⟩ := id C0
  have hown : s.vm.findClass RX2 = some mi.cls := hown
  obtain ⟨F, hF⟩ : ∃ F, F = pX2_strengthBehind b a1 a2 := ⟨_, rfl⟩
  have hf := hF
  have hin2 : ∀ w ∈ u_ws RX2 TX2 8, w ∈ wsX2_strengthBehind := by decide +kernel
  have fl37 := hts (.fieldLink RX2 37 "ClickBench$Bench" "walls" "LClickBench$Table;") (by decide +kernel)
  refine lv_aload_n hx hb dX2_strengthBehind_0 rfl (lv_at hl 0 rfl) ?_
  refine va_get (D := (dC, dI)) (ci := 1) (v := .ref (qb 3)) (C := RX2) (T := TX2) (N := 8) hx hb hts hin2 hown hK hP 0 rfl rfl 5 (by decide) fl37 (fun _ h9 => h9) rfl dX2_strengthBehind_1 ?_
  refine lv_iload_n hx hb dX2_strengthBehind_4 rfl (lv_at hl 1 rfl) ?_
  have hPc := hP.sub (ws' := tw (tad (qb 3) (qb 4)) cI 4 3 12 (b.1 5, b.2 1)) [3, 4] rfl
  refine gro_i (va_runV (As := [.int a1]) (rest := []) ⟨hx, hb, hml, hown, hts⟩ (mX9_has l dC dI cI cB cO cL (tad (qb 3) (qb 4)) 4 3 12 (b.1 5, b.2 1) a1  ) (cwV 1 hts gX2_strengthBehind_X9_has rfl rfl rfl (by decide +kernel) ⟨Nat.le_of_ble_eq_true rfl, Nat.le_of_ble_eq_true rfl⟩) ⟨cP_blind, va_recv hK hPc (ci := 6) (q0 := 0) rfl rfl, cP_ok hPc hK hE⟩ rfl rfl hl.1 rfl (lv_room (Nat.le_of_ble_eq_true rfl)) dX2_strengthBehind_5 ⟨Nat.zero_le _, Nat.zero_le _⟩) ?_
  refine lv_if_eq (tgt := 31) hx hb dX2_strengthBehind_8 (by decide) (fun c1 => ?_) (fun c1 => ?_)
  · have c1 := bz_f c1
    have hf := ie_eq c1 hf
    refine lv_iload_n hx hb dX2_strengthBehind_31 rfl (lv_at hl 2 rfl) ?_
    exact e_ri C0 (hf.symm.trans hF) dX2_strengthBehind_32
  · have c1 := bz_t c1
    have hf := it_eq c1 hf
    have hok := it_ok c1 hok
    refine lv_iload_n hx hb dX2_strengthBehind_11 rfl (lv_at hl 2 rfl) ?_
    refine lv_bipush (v := 100) hx hb dX2_strengthBehind_12 (by decide) ?_
    refine lv_aload_n hx hb dX2_strengthBehind_14 rfl (lv_at hl 0 rfl) ?_
    refine va_get (D := (dC, dI)) (ci := 1) (v := .ref (qb 3)) (C := RX2) (T := TX2) (N := 8) hx hb hts hin2 hown hK hP 0 rfl rfl 5 (by decide) fl37 (fun _ h9 => h9) rfl dX2_strengthBehind_15 ?_
    refine lv_iload_n hx hb dX2_strengthBehind_18 rfl (lv_at hl 1 rfl) ?_
    refine lv_iconst (v := 2) hx hb dX2_strengthBehind_19 (by decide) ?_
    have h2 : kX9_at 4 3 12 (b.1 5, b.2 1) a1 2 := hok
    have hPc := hP.sub (ws' := tw (tad (qb 3) (qb 4)) cI 4 3 12 (b.1 5, b.2 1)) [3, 4] rfl
    refine gro_i (va_runV (As := [.int a1, .int 2]) (rest := [.int 100, .int a2]) ⟨hx, hb, hml, hown, hts⟩ (mX9_at l dC dI cI cB cO cL (tad (qb 3) (qb 4)) 4 3 12 (b.1 5, b.2 1) a1 2  h2) (cwV 2 hts gX2_strengthBehind_X9_at rfl rfl rfl (by decide +kernel) ⟨Nat.le_of_ble_eq_true rfl, Nat.le_of_ble_eq_true rfl⟩) ⟨cP_blind, va_recv hK hPc (ci := 6) (q0 := 0) rfl rfl, cP_ok hPc hK hE⟩ rfl rfl hl.1 rfl (lv_room (Nat.le_of_ble_eq_true rfl)) dX2_strengthBehind_20 ⟨Nat.zero_le _, Nat.zero_le _⟩) ?_
    refine lv_isub hx hb dX2_strengthBehind_23 ?_
    refine lv_imul hx hb dX2_strengthBehind_24 ?_
    refine lv_bipush (v := 100) hx hb dX2_strengthBehind_25 (by decide) ?_
    refine lv_idiv hx hb dX2_strengthBehind_27 (by decide) ?_
    refine lv_goto (tgt := 32) hx hb dX2_strengthBehind_28 (by decide) ?_
    exact e_ri C0 (hf.symm.trans hF) dX2_strengthBehind_32
noncomputable def pX2_mirroredX (b : BS) (a1 : Int32) (a2 : Int32) : Int32 := if (pX9_at 4 3 12 (b.1 5, b.2 1) a1 0) = 0 then ((2 * (pX9_at 4 3 12 (b.1 5, b.2 1) a1 1)) - a2) else (a2)
def kX2_mirroredX (b : BS) (a1 : Int32) (a2 : Int32) : Prop := (kX9_at 4 3 12 (b.1 5, b.2 1) a1 0) ∧ (if (pX9_at 4 3 12 (b.1 5, b.2 1) a1 0) = 0 then (kX9_at 4 3 12 (b.1 5, b.2 1) a1 1) else (True))
abbrev rX2_mirroredX : Room := { frames := 1, cells := 0, slots := 0, locals := 22 }
set_option maxHeartbeats 4000000 in
set_option maxRecDepth 100000 in
theorem mX2_mirroredX (l : Launch) (dC : Nat → ClassId) (dI : Nat → Nat → Nat) (cI cB cO cL : ClassId) (qb : Nat → Nat) (b : BS) (a1 : Int32) (a2 : Int32) (hok : kX2_mirroredX b a1 a2) : Met l yX2_mirroredX wsX2_mirroredX rX2_mirroredX (cP (dC, dI) (tYS cI cB cO cL) (bw qb cI b) [.ref (qb 0), .int a1, .int a2]) (gRi (pX2_mirroredX b a1 a2)) 0 0 (fun _ => False) := by
  refine cMet (cc := cX2_mirroredX) (maxL := 3) (ret := some .int) [(0, .ref (qb 0)), (1, .int a1), (2, .int a2)] (by decide) rfl rfl rfl ?_
  intro p e s mi below meth c C0 hK hE hP ls hl
  obtain ⟨hx, hb, hr, hml, hown, hts, hlocks⟩ := id C0
  have hown : s.vm.findClass RX2 = some mi.cls := hown
  obtain ⟨F, hF⟩ : ∃ F, F = pX2_mirroredX b a1 a2 := ⟨_, rfl⟩
  have hf := hF
  have hin2 : ∀ w ∈ u_ws RX2 TX2 8, w ∈ wsX2_mirroredX := by decide +kernel
  have fl37 := hts (.fieldLink RX2 37 "ClickBench$Bench" "walls" "LClickBench$Table;") (by decide +kernel)
  refine lv_aload_n hx hb dX2_mirroredX_0 rfl (lv_at hl 0 rfl) ?_
  refine va_get (D := (dC, dI)) (ci := 1) (v := .ref (qb 3)) (C := RX2) (T := TX2) (N := 8) hx hb hts hin2 hown hK hP 0 rfl rfl 5 (by decide) fl37 (fun _ h9 => h9) rfl dX2_mirroredX_1 ?_
  refine lv_iload_n hx hb dX2_mirroredX_4 rfl (lv_at hl 1 rfl) ?_
  refine lv_iconst (v := 0) hx hb dX2_mirroredX_5 (by decide) ?_
  obtain ⟨h1, hok⟩ := hok
  have hPc := hP.sub (ws' := tw (tad (qb 3) (qb 4)) cI 4 3 12 (b.1 5, b.2 1)) [3, 4] rfl
  refine gro_i (va_runV (As := [.int a1, .int 0]) (rest := []) ⟨hx, hb, hml, hown, hts⟩ (mX9_at l dC dI cI cB cO cL (tad (qb 3) (qb 4)) 4 3 12 (b.1 5, b.2 1) a1 0  h1) (cwV 2 hts gX2_mirroredX_X9_at rfl rfl rfl (by decide +kernel) ⟨Nat.le_of_ble_eq_true rfl, Nat.le_of_ble_eq_true rfl⟩) ⟨cP_blind, va_recv hK hPc (ci := 6) (q0 := 0) rfl rfl, cP_ok hPc hK hE⟩ rfl rfl hl.1 rfl (lv_room (Nat.le_of_ble_eq_true rfl)) dX2_mirroredX_6 ⟨Nat.zero_le _, Nat.zero_le _⟩) ?_
  refine lv_if_ne (tgt := 28) hx hb dX2_mirroredX_9 (by decide) (fun c2 => ?_) (fun c2 => ?_)
  · have hf := ie_eq c2 hf
    refine lv_iload_n hx hb dX2_mirroredX_28 rfl (lv_at hl 2 rfl) ?_
    exact e_ri C0 (hf.symm.trans hF) dX2_mirroredX_29
  · have hf := it_eq c2 hf
    have hok := it_ok c2 hok
    refine lv_iconst (v := 2) hx hb dX2_mirroredX_12 (by decide) ?_
    refine lv_aload_n hx hb dX2_mirroredX_13 rfl (lv_at hl 0 rfl) ?_
    refine va_get (D := (dC, dI)) (ci := 1) (v := .ref (qb 3)) (C := RX2) (T := TX2) (N := 8) hx hb hts hin2 hown hK hP 0 rfl rfl 5 (by decide) fl37 (fun _ h9 => h9) rfl dX2_mirroredX_14 ?_
    refine lv_iload_n hx hb dX2_mirroredX_17 rfl (lv_at hl 1 rfl) ?_
    refine lv_iconst (v := 1) hx hb dX2_mirroredX_18 (by decide) ?_
    have h3 : kX9_at 4 3 12 (b.1 5, b.2 1) a1 1 := hok
    have hPc := hP.sub (ws' := tw (tad (qb 3) (qb 4)) cI 4 3 12 (b.1 5, b.2 1)) [3, 4] rfl
    refine gro_i (va_runV (As := [.int a1, .int 1]) (rest := [.int 2]) ⟨hx, hb, hml, hown, hts⟩ (mX9_at l dC dI cI cB cO cL (tad (qb 3) (qb 4)) 4 3 12 (b.1 5, b.2 1) a1 1  h3) (cwV 2 hts gX2_mirroredX_X9_at rfl rfl rfl (by decide +kernel) ⟨Nat.le_of_ble_eq_true rfl, Nat.le_of_ble_eq_true rfl⟩) ⟨cP_blind, va_recv hK hPc (ci := 6) (q0 := 0) rfl rfl, cP_ok hPc hK hE⟩ rfl rfl hl.1 rfl (lv_room (Nat.le_of_ble_eq_true rfl)) dX2_mirroredX_19 ⟨Nat.zero_le _, Nat.zero_le _⟩) ?_
    refine lv_imul hx hb dX2_mirroredX_22 ?_
    refine lv_iload_n hx hb dX2_mirroredX_23 rfl (lv_at hl 2 rfl) ?_
    refine lv_isub hx hb dX2_mirroredX_24 ?_
    refine lv_goto (tgt := 29) hx hb dX2_mirroredX_25 (by decide) ?_
    exact e_ri C0 (hf.symm.trans hF) dX2_mirroredX_29
noncomputable def pX2_mirroredY (b : BS) (a1 : Int32) (a2 : Int32) : Int32 := if (pX9_at 4 3 12 (b.1 5, b.2 1) a1 0) = 0 then (a2) else ((2 * (pX9_at 4 3 12 (b.1 5, b.2 1) a1 1)) - a2)
def kX2_mirroredY (b : BS) (a1 : Int32) (a2 : Int32) : Prop := (kX9_at 4 3 12 (b.1 5, b.2 1) a1 0) ∧ (if (pX9_at 4 3 12 (b.1 5, b.2 1) a1 0) = 0 then (True) else (kX9_at 4 3 12 (b.1 5, b.2 1) a1 1))
abbrev rX2_mirroredY : Room := { frames := 1, cells := 0, slots := 0, locals := 22 }
set_option maxHeartbeats 4000000 in
set_option maxRecDepth 100000 in
theorem mX2_mirroredY (l : Launch) (dC : Nat → ClassId) (dI : Nat → Nat → Nat) (cI cB cO cL : ClassId) (qb : Nat → Nat) (b : BS) (a1 : Int32) (a2 : Int32) (hok : kX2_mirroredY b a1 a2) : Met l yX2_mirroredY wsX2_mirroredY rX2_mirroredY (cP (dC, dI) (tYS cI cB cO cL) (bw qb cI b) [.ref (qb 0), .int a1, .int a2]) (gRi (pX2_mirroredY b a1 a2)) 0 0 (fun _ => False) := by
  refine cMet (cc := cX2_mirroredY) (maxL := 3) (ret := some .int) [(0, .ref (qb 0)), (1, .int a1), (2, .int a2)] (by decide) rfl rfl rfl ?_
  intro p e s mi below meth c C0 hK hE hP ls hl
  obtain ⟨hx, hb, hr, hml, hown, hts, hlocks⟩ := id C0
  have hown : s.vm.findClass RX2 = some mi.cls := hown
  obtain ⟨F, hF⟩ : ∃ F, F = pX2_mirroredY b a1 a2 := ⟨_, rfl⟩
  have hf := hF
  have hin2 : ∀ w ∈ u_ws RX2 TX2 8, w ∈ wsX2_mirroredY := by decide +kernel
  have fl37 := hts (.fieldLink RX2 37 "ClickBench$Bench" "walls" "LClickBench$Table;") (by decide +kernel)
  refine lv_aload_n hx hb dX2_mirroredY_0 rfl (lv_at hl 0 rfl) ?_
  refine va_get (D := (dC, dI)) (ci := 1) (v := .ref (qb 3)) (C := RX2) (T := TX2) (N := 8) hx hb hts hin2 hown hK hP 0 rfl rfl 5 (by decide) fl37 (fun _ h9 => h9) rfl dX2_mirroredY_1 ?_
  refine lv_iload_n hx hb dX2_mirroredY_4 rfl (lv_at hl 1 rfl) ?_
  refine lv_iconst (v := 0) hx hb dX2_mirroredY_5 (by decide) ?_
  obtain ⟨h1, hok⟩ := hok
  have hPc := hP.sub (ws' := tw (tad (qb 3) (qb 4)) cI 4 3 12 (b.1 5, b.2 1)) [3, 4] rfl
  refine gro_i (va_runV (As := [.int a1, .int 0]) (rest := []) ⟨hx, hb, hml, hown, hts⟩ (mX9_at l dC dI cI cB cO cL (tad (qb 3) (qb 4)) 4 3 12 (b.1 5, b.2 1) a1 0  h1) (cwV 2 hts gX2_mirroredY_X9_at rfl rfl rfl (by decide +kernel) ⟨Nat.le_of_ble_eq_true rfl, Nat.le_of_ble_eq_true rfl⟩) ⟨cP_blind, va_recv hK hPc (ci := 6) (q0 := 0) rfl rfl, cP_ok hPc hK hE⟩ rfl rfl hl.1 rfl (lv_room (Nat.le_of_ble_eq_true rfl)) dX2_mirroredY_6 ⟨Nat.zero_le _, Nat.zero_le _⟩) ?_
  refine lv_if_ne (tgt := 16) hx hb dX2_mirroredY_9 (by decide) (fun c2 => ?_) (fun c2 => ?_)
  · have hf := ie_eq c2 hf
    have hok := ie_ok c2 hok
    refine lv_iconst (v := 2) hx hb dX2_mirroredY_16 (by decide) ?_
    refine lv_aload_n hx hb dX2_mirroredY_17 rfl (lv_at hl 0 rfl) ?_
    refine va_get (D := (dC, dI)) (ci := 1) (v := .ref (qb 3)) (C := RX2) (T := TX2) (N := 8) hx hb hts hin2 hown hK hP 0 rfl rfl 5 (by decide) fl37 (fun _ h9 => h9) rfl dX2_mirroredY_18 ?_
    refine lv_iload_n hx hb dX2_mirroredY_21 rfl (lv_at hl 1 rfl) ?_
    refine lv_iconst (v := 1) hx hb dX2_mirroredY_22 (by decide) ?_
    have h3 : kX9_at 4 3 12 (b.1 5, b.2 1) a1 1 := hok
    have hPc := hP.sub (ws' := tw (tad (qb 3) (qb 4)) cI 4 3 12 (b.1 5, b.2 1)) [3, 4] rfl
    refine gro_i (va_runV (As := [.int a1, .int 1]) (rest := [.int 2]) ⟨hx, hb, hml, hown, hts⟩ (mX9_at l dC dI cI cB cO cL (tad (qb 3) (qb 4)) 4 3 12 (b.1 5, b.2 1) a1 1  h3) (cwV 2 hts gX2_mirroredY_X9_at rfl rfl rfl (by decide +kernel) ⟨Nat.le_of_ble_eq_true rfl, Nat.le_of_ble_eq_true rfl⟩) ⟨cP_blind, va_recv hK hPc (ci := 6) (q0 := 0) rfl rfl, cP_ok hPc hK hE⟩ rfl rfl hl.1 rfl (lv_room (Nat.le_of_ble_eq_true rfl)) dX2_mirroredY_23 ⟨Nat.zero_le _, Nat.zero_le _⟩) ?_
    refine lv_imul hx hb dX2_mirroredY_26 ?_
    refine lv_iload_n hx hb dX2_mirroredY_27 rfl (lv_at hl 2 rfl) ?_
    refine lv_isub hx hb dX2_mirroredY_28 ?_
    exact e_ri C0 (hf.symm.trans hF) dX2_mirroredY_29
  · have hf := it_eq c2 hf
    refine lv_iload_n hx hb dX2_mirroredY_12 rfl (lv_at hl 2 rfl) ?_
    refine lv_goto (tgt := 29) hx hb dX2_mirroredY_13 (by decide) ?_
    exact e_ri C0 (hf.symm.trans hF) dX2_mirroredY_29
noncomputable def pX2_isScreened_L119 (b : BS) (q_25 : Int32 → Int32 → Int32 → Int32 → Int32 → Bool) (v1_119 : Int32) (v2_119 : Int32) (v4_119 : Int32) (v5_119 : Int32) (v6_119 : Int32) (t0_119 : Bool) : Bool := if t0_119 = true then (true) else (lt (v6_119 + 1) fun (x15 : Int32) => q_25 v1_119 v2_119 v4_119 v5_119 x15)
def kX2_isScreened_L119 (b : BS) (Q_25 : Int32 → Int32 → Int32 → Int32 → Int32 → Prop) (v1_119 : Int32) (v2_119 : Int32) (v4_119 : Int32) (v5_119 : Int32) (v6_119 : Int32) (t0_119 : Bool) : Prop := if t0_119 = true then (True) else (lt (v6_119 + 1) fun (x15 : Int32) => Q_25 v1_119 v2_119 v4_119 v5_119 x15)
noncomputable def bX2_isScreened_L25 (b : BS)  (q_25 : Int32 → Int32 → Int32 → Int32 → Int32 → Bool) (v1_25 : Int32) (v2_25 : Int32) (v4_25 : Int32) (v5_25 : Int32) (v6_25 : Int32) : Bool := if (b.1 6) ≤ v6_25 then (false) else (lt (pX9_at 4 4 16 (b.1 6, b.2 2) v6_25 1) fun (x7 : Int32) => lt (pX9_at 4 4 16 (b.1 6, b.2 2) v6_25 2) fun (x9 : Int32) => lt (pX9_at 4 4 16 (b.1 6, b.2 2) v6_25 3) fun (x11 : Int32) => if (pX9_at 4 4 16 (b.1 6, b.2 2) v6_25 0) = 0 then (pX2_isScreened_L119 b q_25 v1_25 v2_25 v4_25 v5_25 v6_25 (pX7_crosses v1_25 v2_25 v4_25 v5_25 x7 x9 x11)) else (pX2_isScreened_L119 b q_25 v1_25 v2_25 v4_25 v5_25 v6_25 (pX7_crosses v2_25 v1_25 v5_25 v4_25 x7 x9 x11)))
noncomputable def pX2_isScreened_L25 (b : BS)  : Nat → Int32 → Int32 → Int32 → Int32 → Int32 → Bool
  | 0 => fun _ _ _ _ _ => (false)
  | n + 1 => bX2_isScreened_L25 b  (pX2_isScreened_L25 b  n)
def kbX2_isScreened_L25 (b : BS)  (Q_25 : Int32 → Int32 → Int32 → Int32 → Int32 → Prop) (v1_25 : Int32) (v2_25 : Int32) (v4_25 : Int32) (v5_25 : Int32) (v6_25 : Int32) : Prop := if (b.1 6) ≤ v6_25 then (True) else ((kX9_at 4 4 16 (b.1 6, b.2 2) v6_25 1) ∧ (lt (pX9_at 4 4 16 (b.1 6, b.2 2) v6_25 1) fun (x7 : Int32) => (kX9_at 4 4 16 (b.1 6, b.2 2) v6_25 2) ∧ (lt (pX9_at 4 4 16 (b.1 6, b.2 2) v6_25 2) fun (x9 : Int32) => (kX9_at 4 4 16 (b.1 6, b.2 2) v6_25 3) ∧ (lt (pX9_at 4 4 16 (b.1 6, b.2 2) v6_25 3) fun (x11 : Int32) => (kX9_at 4 4 16 (b.1 6, b.2 2) v6_25 0) ∧ (if (pX9_at 4 4 16 (b.1 6, b.2 2) v6_25 0) = 0 then (kX2_isScreened_L119 b Q_25 v1_25 v2_25 v4_25 v5_25 v6_25 (pX7_crosses v1_25 v2_25 v4_25 v5_25 x7 x9 x11)) else (kX2_isScreened_L119 b Q_25 v1_25 v2_25 v4_25 v5_25 v6_25 (pX7_crosses v2_25 v1_25 v5_25 v4_25 x7 x9 x11)))))))
noncomputable def kX2_isScreened_L25 (b : BS)  : Nat → Int32 → Int32 → Int32 → Int32 → Int32 → Prop
  | 0 => fun _ _ _ _ _ => False
  | n + 1 => kbX2_isScreened_L25 b  (kX2_isScreened_L25 b  n)
noncomputable def pX2_isScreened (b : BS) (a1 : Int32) (a2 : Int32) (a3 : Int32) : Bool := lt (pX9_at 8 9 72 (b.1 4, b.2 0) a3 0) fun (x2 : Int32) => lt (pX9_at 8 9 72 (b.1 4, b.2 0) a3 1) fun (x4 : Int32) => pX2_isScreened_L25 b fu a1 a2 x2 x4 0
def kX2_isScreened (b : BS) (a1 : Int32) (a2 : Int32) (a3 : Int32) : Prop := (kX9_at 8 9 72 (b.1 4, b.2 0) a3 0) ∧ (lt (pX9_at 8 9 72 (b.1 4, b.2 0) a3 0) fun (x2 : Int32) => (kX9_at 8 9 72 (b.1 4, b.2 0) a3 1) ∧ (lt (pX9_at 8 9 72 (b.1 4, b.2 0) a3 1) fun (x4 : Int32) => kX2_isScreened_L25 b fu a1 a2 x2 x4 0))
abbrev rX2_isScreened : Room := { frames := 2, cells := 0, slots := 0, locals := 57 }
set_option maxHeartbeats 4000000 in
set_option maxRecDepth 100000 in
theorem mX2_isScreened (l : Launch) (dC : Nat → ClassId) (dI : Nat → Nat → Nat) (cI cB cO cL : ClassId) (qb : Nat → Nat) (b : BS) (a1 : Int32) (a2 : Int32) (a3 : Int32) (hok : kX2_isScreened b a1 a2 a3) : Met l yX2_isScreened wsX2_isScreened rX2_isScreened (cP (dC, dI) (tYS cI cB cO cL) (bw qb cI b) [.ref (qb 0), .int a1, .int a2, .int a3]) (gRz (pX2_isScreened b a1 a2 a3)) 0 0 (fun _ => False) := by
  refine cMet (cc := cX2_isScreened) (maxL := 11) (ret := some .boolean) [(0, .ref (qb 0)), (1, .int a1), (2, .int a2), (3, .int a3)] (by decide) rfl rfl rfl ?_
  intro p e s mi below meth c C0 hK hE hP ls hl
  obtain ⟨hx, hb, hr, hml, hown, hts, hlocks⟩ := id C0
  have hown : s.vm.findClass RX2 = some mi.cls := hown
  obtain ⟨F, hF⟩ : ∃ F, F = pX2_isScreened b a1 a2 a3 := ⟨_, rfl⟩
  have hf := hF
  have hin2 : ∀ w ∈ u_ws RX2 TX2 8, w ∈ wsX2_isScreened := by decide +kernel
  have hin9 : ∀ w ∈ u_ws RX9 TX9 4, w ∈ wsX2_isScreened := by decide +kernel
  have fl29 := hts (.fieldLink RX2 29 "ClickBench$Bench" "microphones" "LClickBench$Table;") (by decide +kernel)
  have fl40 := hts (.fieldLink RX2 40 "ClickBench$Bench" "screens" "LClickBench$Table;") (by decide +kernel)
  have fl69 := hts (.fieldLink RX2 69 "ClickBench$Table" "count" "I") (by decide +kernel)
  have J_25 : ∀ (n_25 : Nat) (v1_25 : Int32) (v2_25 : Int32) (v4_25 : Int32) (v5_25 : Int32) (v6_25 : Int32), ∀ ls : Array Slot, lv_has ls 11 [(0, .ref (qb 0)), (1, .int v1_25), (2, .int v2_25), (4, .int v4_25), (5, .int v5_25), (6, .int v6_25)] → F = pX2_isScreened_L25 b n_25 v1_25 v2_25 v4_25 v5_25 v6_25 → kX2_isScreened_L25 b n_25 v1_25 v2_25 v4_25 v5_25 v6_25 → W p l e rX2_isScreened s mi ([.ref (qb 0), .int a1, .int a2, .int a3] : List Value).toArray below meth c s.heap [] 0 0 (MQ below (gRz (pX2_isScreened b a1 a2 a3)) ([.ref (qb 0), .int a1, .int a2, .int a3] : List Value).toArray s 0 0 (fun _ => False)) (F0 mi 25 ls []) := by
    intro n_25
    induction n_25 with
    | zero =>
      intro v1_25 v2_25 v4_25 v5_25 v6_25 ls hl hf hok
      exact absurd hok (fun h => h)
    | succ n_25 ih_25 =>
      have J_119 : ∀ (v1_119 : Int32) (v2_119 : Int32) (v4_119 : Int32) (v5_119 : Int32) (v6_119 : Int32) (t0_119 : Bool), ∀ ls : Array Slot, lv_has ls 11 [(0, .ref (qb 0)), (1, .int v1_119), (2, .int v2_119), (4, .int v4_119), (5, .int v5_119), (6, .int v6_119)] → F = pX2_isScreened_L119 b (pX2_isScreened_L25 b n_25) v1_119 v2_119 v4_119 v5_119 v6_119 t0_119 → kX2_isScreened_L119 b (kX2_isScreened_L25 b n_25) v1_119 v2_119 v4_119 v5_119 v6_119 t0_119 → W p l e rX2_isScreened s mi ([.ref (qb 0), .int a1, .int a2, .int a3] : List Value).toArray below meth c s.heap [] 0 0 (MQ below (gRz (pX2_isScreened b a1 a2 a3)) ([.ref (qb 0), .int a1, .int a2, .int a3] : List Value).toArray s 0 0 (fun _ => False)) (F0 mi 119 ls [.int (bz t0_119)]) := by
        intro v1_119 v2_119 v4_119 v5_119 v6_119 t0_119 ls hl hf hok
        refine lv_istore (lv' := [(10, .int (bz t0_119)), (0, .ref (qb 0)), (1, .int v1_119), (2, .int v2_119), (4, .int v4_119), (5, .int v5_119), (6, .int v6_119)]) hx hb dX2_isScreened_119 hl (by decide) rfl (fun ls hl => ?_)
        refine lv_iload hx hb dX2_isScreened_121 (lv_at hl 0 rfl) ?_
        refine lv_if_eq (tgt := 128) hx hb dX2_isScreened_123 (by decide) (fun c14 => ?_) (fun c14 => ?_)
        · have c14 := bz_f c14
          have hf := ie_eq c14 hf
          have hok := ie_ok c14 hok
          obtain ⟨x15, ex15⟩ : ∃ y : Int32, y = v6_119 + 1 := ⟨_, rfl⟩
          refine lv_iinc (v := x15) (lv' := [(6, .int x15), (10, .int (bz t0_119)), (0, .ref (qb 0)), (1, .int v1_119), (2, .int v2_119), (4, .int v4_119), (5, .int v5_119)]) hx hb dX2_isScreened_128 hl (k := 6) rfl (by rw [ex15]; rfl) (by decide) rfl (fun ls hl => ?_)
          have hf := lt_eq ex15 hf
          have hok := lt_ok ex15 hok
          refine lv_goto (tgt := 25) hx hb dX2_isScreened_131 (by decide) ?_
          exact ih_25 v1_119 v2_119 v4_119 v5_119 x15 _ (lv_sub hl [2, 3, 4, 5, 6, 0] rfl) hf hok
        · have c14 := bz_t c14
          have hf := it_eq c14 hf
          refine lv_iconst (v := 1) hx hb dX2_isScreened_126 (by decide) ?_
          exact e_rz C0 (b := true) rfl (hf.symm.trans hF) dX2_isScreened_127
      intro v1_25 v2_25 v4_25 v5_25 v6_25 ls hl hf hok
      have hf : F = bX2_isScreened_L25 b (pX2_isScreened_L25 b n_25) v1_25 v2_25 v4_25 v5_25 v6_25 := hf
      have hok : kbX2_isScreened_L25 b (kX2_isScreened_L25 b n_25) v1_25 v2_25 v4_25 v5_25 v6_25 := hok
      refine lv_iload hx hb dX2_isScreened_25 (lv_at hl 5 rfl) ?_
      refine lv_aload_n hx hb dX2_isScreened_27 rfl (lv_at hl 0 rfl) ?_
      refine va_get (D := (dC, dI)) (ci := 1) (v := .ref (qb 5)) (C := RX2) (T := TX2) (N := 8) hx hb hts hin2 hown hK hP 0 rfl rfl 6 (by decide) fl40 (fun _ h9 => h9) rfl dX2_isScreened_28 ?_
      refine va_get (D := (dC, dI)) (ci := 6) (v := .int (b.1 6)) (C := RX9) (T := TX9) (N := 4) hx hb hts hin9 hown hK hP 5 rfl rfl 3 (by decide) fl69 (fun _ h9 => h9) rfl dX2_isScreened_31 ?_
      refine lv_icmp_ge (tgt := 134) hx hb dX2_isScreened_34 (by decide) (fun c5 => ?_) (fun c5 => ?_)
      · have hf := it_eq c5 hf
        refine lv_iconst (v := 0) hx hb dX2_isScreened_134 (by decide) ?_
        exact e_rz C0 (b := false) rfl (hf.symm.trans hF) dX2_isScreened_135
      · have hf := ie_eq c5 hf
        have hok := ie_ok c5 hok
        refine lv_aload_n hx hb dX2_isScreened_37 rfl (lv_at hl 0 rfl) ?_
        refine va_get (D := (dC, dI)) (ci := 1) (v := .ref (qb 5)) (C := RX2) (T := TX2) (N := 8) hx hb hts hin2 hown hK hP 0 rfl rfl 6 (by decide) fl40 (fun _ h9 => h9) rfl dX2_isScreened_38 ?_
        refine lv_iload hx hb dX2_isScreened_41 (lv_at hl 5 rfl) ?_
        refine lv_iconst (v := 1) hx hb dX2_isScreened_43 (by decide) ?_
        obtain ⟨h6, hok⟩ := hok
        have hPc := hP.sub (ws' := tw (tad (qb 5) (qb 6)) cI 4 4 16 (b.1 6, b.2 2)) [5, 6] rfl
        refine gro_i (va_runV (As := [.int v6_25, .int 1]) (rest := []) ⟨hx, hb, hml, hown, hts⟩ (mX9_at l dC dI cI cB cO cL (tad (qb 5) (qb 6)) 4 4 16 (b.1 6, b.2 2) v6_25 1  h6) (cwV 2 hts gX2_isScreened_X9_at rfl rfl rfl (by decide +kernel) ⟨Nat.le_of_ble_eq_true rfl, Nat.le_of_ble_eq_true rfl⟩) ⟨cP_blind, va_recv hK hPc (ci := 6) (q0 := 0) rfl rfl, cP_ok hPc hK hE⟩ rfl rfl hl.1 rfl (lv_room (Nat.le_of_ble_eq_true rfl)) dX2_isScreened_44 ⟨Nat.zero_le _, Nat.zero_le _⟩) ?_
        refine lv_topi (fun x7 ex7 => ?_)
        have hf := lt_eq ex7 hf
        have hok := lt_ok ex7 hok
        refine lv_istore (lv' := [(7, .int x7), (0, .ref (qb 0)), (1, .int v1_25), (2, .int v2_25), (4, .int v4_25), (5, .int v5_25), (6, .int v6_25)]) hx hb dX2_isScreened_47 hl (by decide) rfl (fun ls hl => ?_)
        refine lv_aload_n hx hb dX2_isScreened_49 rfl (lv_at hl 1 rfl) ?_
        refine va_get (D := (dC, dI)) (ci := 1) (v := .ref (qb 5)) (C := RX2) (T := TX2) (N := 8) hx hb hts hin2 hown hK hP 0 rfl rfl 6 (by decide) fl40 (fun _ h9 => h9) rfl dX2_isScreened_50 ?_
        refine lv_iload hx hb dX2_isScreened_53 (lv_at hl 6 rfl) ?_
        refine lv_iconst (v := 2) hx hb dX2_isScreened_55 (by decide) ?_
        obtain ⟨h8, hok⟩ := hok
        have hPc := hP.sub (ws' := tw (tad (qb 5) (qb 6)) cI 4 4 16 (b.1 6, b.2 2)) [5, 6] rfl
        refine gro_i (va_runV (As := [.int v6_25, .int 2]) (rest := []) ⟨hx, hb, hml, hown, hts⟩ (mX9_at l dC dI cI cB cO cL (tad (qb 5) (qb 6)) 4 4 16 (b.1 6, b.2 2) v6_25 2  h8) (cwV 2 hts gX2_isScreened_X9_at rfl rfl rfl (by decide +kernel) ⟨Nat.le_of_ble_eq_true rfl, Nat.le_of_ble_eq_true rfl⟩) ⟨cP_blind, va_recv hK hPc (ci := 6) (q0 := 0) rfl rfl, cP_ok hPc hK hE⟩ rfl rfl hl.1 rfl (lv_room (Nat.le_of_ble_eq_true rfl)) dX2_isScreened_56 ⟨Nat.zero_le _, Nat.zero_le _⟩) ?_
        refine lv_topi (fun x9 ex9 => ?_)
        have hf := lt_eq ex9 hf
        have hok := lt_ok ex9 hok
        refine lv_istore (lv' := [(8, .int x9), (7, .int x7), (0, .ref (qb 0)), (1, .int v1_25), (2, .int v2_25), (4, .int v4_25), (5, .int v5_25), (6, .int v6_25)]) hx hb dX2_isScreened_59 hl (by decide) rfl (fun ls hl => ?_)
        refine lv_aload_n hx hb dX2_isScreened_61 rfl (lv_at hl 2 rfl) ?_
        refine va_get (D := (dC, dI)) (ci := 1) (v := .ref (qb 5)) (C := RX2) (T := TX2) (N := 8) hx hb hts hin2 hown hK hP 0 rfl rfl 6 (by decide) fl40 (fun _ h9 => h9) rfl dX2_isScreened_62 ?_
        refine lv_iload hx hb dX2_isScreened_65 (lv_at hl 7 rfl) ?_
        refine lv_iconst (v := 3) hx hb dX2_isScreened_67 (by decide) ?_
        obtain ⟨h10, hok⟩ := hok
        have hPc := hP.sub (ws' := tw (tad (qb 5) (qb 6)) cI 4 4 16 (b.1 6, b.2 2)) [5, 6] rfl
        refine gro_i (va_runV (As := [.int v6_25, .int 3]) (rest := []) ⟨hx, hb, hml, hown, hts⟩ (mX9_at l dC dI cI cB cO cL (tad (qb 5) (qb 6)) 4 4 16 (b.1 6, b.2 2) v6_25 3  h10) (cwV 2 hts gX2_isScreened_X9_at rfl rfl rfl (by decide +kernel) ⟨Nat.le_of_ble_eq_true rfl, Nat.le_of_ble_eq_true rfl⟩) ⟨cP_blind, va_recv hK hPc (ci := 6) (q0 := 0) rfl rfl, cP_ok hPc hK hE⟩ rfl rfl hl.1 rfl (lv_room (Nat.le_of_ble_eq_true rfl)) dX2_isScreened_68 ⟨Nat.zero_le _, Nat.zero_le _⟩) ?_
        refine lv_topi (fun x11 ex11 => ?_)
        have hf := lt_eq ex11 hf
        have hok := lt_ok ex11 hok
        refine lv_istore (lv' := [(9, .int x11), (8, .int x9), (7, .int x7), (0, .ref (qb 0)), (1, .int v1_25), (2, .int v2_25), (4, .int v4_25), (5, .int v5_25), (6, .int v6_25)]) hx hb dX2_isScreened_71 hl (by decide) rfl (fun ls hl => ?_)
        refine lv_aload_n hx hb dX2_isScreened_73 rfl (lv_at hl 3 rfl) ?_
        refine va_get (D := (dC, dI)) (ci := 1) (v := .ref (qb 5)) (C := RX2) (T := TX2) (N := 8) hx hb hts hin2 hown hK hP 0 rfl rfl 6 (by decide) fl40 (fun _ h9 => h9) rfl dX2_isScreened_74 ?_
        refine lv_iload hx hb dX2_isScreened_77 (lv_at hl 8 rfl) ?_
        refine lv_iconst (v := 0) hx hb dX2_isScreened_79 (by decide) ?_
        obtain ⟨h12, hok⟩ := hok
        have hPc := hP.sub (ws' := tw (tad (qb 5) (qb 6)) cI 4 4 16 (b.1 6, b.2 2)) [5, 6] rfl
        refine gro_i (va_runV (As := [.int v6_25, .int 0]) (rest := []) ⟨hx, hb, hml, hown, hts⟩ (mX9_at l dC dI cI cB cO cL (tad (qb 5) (qb 6)) 4 4 16 (b.1 6, b.2 2) v6_25 0  h12) (cwV 2 hts gX2_isScreened_X9_at rfl rfl rfl (by decide +kernel) ⟨Nat.le_of_ble_eq_true rfl, Nat.le_of_ble_eq_true rfl⟩) ⟨cP_blind, va_recv hK hPc (ci := 6) (q0 := 0) rfl rfl, cP_ok hPc hK hE⟩ rfl rfl hl.1 rfl (lv_room (Nat.le_of_ble_eq_true rfl)) dX2_isScreened_80 ⟨Nat.zero_le _, Nat.zero_le _⟩) ?_
        refine lv_if_ne (tgt := 104) hx hb dX2_isScreened_83 (by decide) (fun c13 => ?_) (fun c13 => ?_)
        · have hf := ie_eq c13 hf
          have hok := ie_ok c13 hok
          refine lv_iload_n hx hb dX2_isScreened_104 rfl (lv_at hl 5 rfl) ?_
          refine lv_iload_n hx hb dX2_isScreened_105 rfl (lv_at hl 4 rfl) ?_
          refine lv_iload hx hb dX2_isScreened_106 (lv_at hl 7 rfl) ?_
          refine lv_iload hx hb dX2_isScreened_108 (lv_at hl 6 rfl) ?_
          refine lv_iload hx hb dX2_isScreened_110 (lv_at hl 2 rfl) ?_
          refine lv_iload hx hb dX2_isScreened_112 (lv_at hl 1 rfl) ?_
          refine lv_iload hx hb dX2_isScreened_114 (lv_at hl 0 rfl) ?_
          refine gro_i (va_runS (As := [.int v2_25, .int v1_25, .int v5_25, .int v4_25, .int x7, .int x9, .int x11]) (rest := []) ⟨hx, hb, hml, hown, hts⟩ (mX7_crosses l dC dI cI cB cO cL  v2_25 v1_25 v5_25 v4_25 x7 x9 x11  ) (va_cwS 7 hts gX2_isScreened_X7_crosses rfl rfl rfl (by decide +kernel) ⟨Nat.le_of_ble_eq_true rfl, Nat.le_of_ble_eq_true rfl⟩) ⟨cP_blind, cP_ok va_P_nil hK hE⟩ rfl rfl hl.1 rfl (lv_room (Nat.le_of_ble_eq_true rfl)) dX2_isScreened_116 ⟨Nat.zero_le _, Nat.zero_le _⟩) ?_
          exact J_119 v1_25 v2_25 v4_25 v5_25 v6_25 (pX7_crosses v2_25 v1_25 v5_25 v4_25 x7 x9 x11) _ (lv_sub hl [3, 4, 5, 6, 7, 8] rfl) hf hok
        · have hf := it_eq c13 hf
          have hok := it_ok c13 hok
          refine lv_iload_n hx hb dX2_isScreened_86 rfl (lv_at hl 4 rfl) ?_
          refine lv_iload_n hx hb dX2_isScreened_87 rfl (lv_at hl 5 rfl) ?_
          refine lv_iload hx hb dX2_isScreened_88 (lv_at hl 6 rfl) ?_
          refine lv_iload hx hb dX2_isScreened_90 (lv_at hl 7 rfl) ?_
          refine lv_iload hx hb dX2_isScreened_92 (lv_at hl 2 rfl) ?_
          refine lv_iload hx hb dX2_isScreened_94 (lv_at hl 1 rfl) ?_
          refine lv_iload hx hb dX2_isScreened_96 (lv_at hl 0 rfl) ?_
          refine gro_i (va_runS (As := [.int v1_25, .int v2_25, .int v4_25, .int v5_25, .int x7, .int x9, .int x11]) (rest := []) ⟨hx, hb, hml, hown, hts⟩ (mX7_crosses l dC dI cI cB cO cL  v1_25 v2_25 v4_25 v5_25 x7 x9 x11  ) (va_cwS 7 hts gX2_isScreened_X7_crosses rfl rfl rfl (by decide +kernel) ⟨Nat.le_of_ble_eq_true rfl, Nat.le_of_ble_eq_true rfl⟩) ⟨cP_blind, cP_ok va_P_nil hK hE⟩ rfl rfl hl.1 rfl (lv_room (Nat.le_of_ble_eq_true rfl)) dX2_isScreened_98 ⟨Nat.zero_le _, Nat.zero_le _⟩) ?_
          refine lv_goto (tgt := 119) hx hb dX2_isScreened_101 (by decide) ?_
          exact J_119 v1_25 v2_25 v4_25 v5_25 v6_25 (pX7_crosses v1_25 v2_25 v4_25 v5_25 x7 x9 x11) _ (lv_sub hl [3, 4, 5, 6, 7, 8] rfl) hf hok
  refine lv_aload_n hx hb dX2_isScreened_0 rfl (lv_at hl 0 rfl) ?_
  refine va_get (D := (dC, dI)) (ci := 1) (v := .ref (qb 1)) (C := RX2) (T := TX2) (N := 8) hx hb hts hin2 hown hK hP 0 rfl rfl 4 (by decide) fl29 (fun _ h9 => h9) rfl dX2_isScreened_1 ?_
  refine lv_iload_n hx hb dX2_isScreened_4 rfl (lv_at hl 3 rfl) ?_
  refine lv_iconst (v := 0) hx hb dX2_isScreened_5 (by decide) ?_
  obtain ⟨h1, hok⟩ := hok
  have hPc := hP.sub (ws' := tw (tad (qb 1) (qb 2)) cI 8 9 72 (b.1 4, b.2 0)) [1, 2] rfl
  refine gro_i (va_runV (As := [.int a3, .int 0]) (rest := []) ⟨hx, hb, hml, hown, hts⟩ (mX9_at l dC dI cI cB cO cL (tad (qb 1) (qb 2)) 8 9 72 (b.1 4, b.2 0) a3 0  h1) (cwV 2 hts gX2_isScreened_X9_at rfl rfl rfl (by decide +kernel) ⟨Nat.le_of_ble_eq_true rfl, Nat.le_of_ble_eq_true rfl⟩) ⟨cP_blind, va_recv hK hPc (ci := 6) (q0 := 0) rfl rfl, cP_ok hPc hK hE⟩ rfl rfl hl.1 rfl (lv_room (Nat.le_of_ble_eq_true rfl)) dX2_isScreened_6 ⟨Nat.zero_le _, Nat.zero_le _⟩) ?_
  refine lv_topi (fun x2 ex2 => ?_)
  have hf := lt_eq ex2 hf
  have hok := lt_ok ex2 hok
  refine lv_istore (lv' := [(4, .int x2), (0, .ref (qb 0)), (1, .int a1), (2, .int a2), (3, .int a3)]) hx hb dX2_isScreened_9 hl (by decide) rfl (fun ls hl => ?_)
  refine lv_aload_n hx hb dX2_isScreened_11 rfl (lv_at hl 1 rfl) ?_
  refine va_get (D := (dC, dI)) (ci := 1) (v := .ref (qb 1)) (C := RX2) (T := TX2) (N := 8) hx hb hts hin2 hown hK hP 0 rfl rfl 4 (by decide) fl29 (fun _ h9 => h9) rfl dX2_isScreened_12 ?_
  refine lv_iload_n hx hb dX2_isScreened_15 rfl (lv_at hl 4 rfl) ?_
  refine lv_iconst (v := 1) hx hb dX2_isScreened_16 (by decide) ?_
  obtain ⟨h3, hok⟩ := hok
  have hPc := hP.sub (ws' := tw (tad (qb 1) (qb 2)) cI 8 9 72 (b.1 4, b.2 0)) [1, 2] rfl
  refine gro_i (va_runV (As := [.int a3, .int 1]) (rest := []) ⟨hx, hb, hml, hown, hts⟩ (mX9_at l dC dI cI cB cO cL (tad (qb 1) (qb 2)) 8 9 72 (b.1 4, b.2 0) a3 1  h3) (cwV 2 hts gX2_isScreened_X9_at rfl rfl rfl (by decide +kernel) ⟨Nat.le_of_ble_eq_true rfl, Nat.le_of_ble_eq_true rfl⟩) ⟨cP_blind, va_recv hK hPc (ci := 6) (q0 := 0) rfl rfl, cP_ok hPc hK hE⟩ rfl rfl hl.1 rfl (lv_room (Nat.le_of_ble_eq_true rfl)) dX2_isScreened_17 ⟨Nat.zero_le _, Nat.zero_le _⟩) ?_
  refine lv_topi (fun x4 ex4 => ?_)
  have hf := lt_eq ex4 hf
  have hok := lt_ok ex4 hok
  refine lv_istore (lv' := [(5, .int x4), (4, .int x2), (0, .ref (qb 0)), (1, .int a1), (2, .int a2), (3, .int a3)]) hx hb dX2_isScreened_20 hl (by decide) rfl (fun ls hl => ?_)
  refine lv_iconst (v := 0) hx hb dX2_isScreened_22 (by decide) ?_
  refine lv_istore (lv' := [(6, .int 0), (5, .int x4), (4, .int x2), (0, .ref (qb 0)), (1, .int a1), (2, .int a2), (3, .int a3)]) hx hb dX2_isScreened_23 hl (by decide) rfl (fun ls hl => ?_)
  exact J_25 fu a1 a2 x2 x4 0 _ (lv_sub hl [3, 4, 5, 2, 1, 0] rfl) hf hok
noncomputable def pX2_draw (b : BS) (a1 : Int32) : Int32 × BS := lt (bsi b 3 ((((1103515245 * ((b.1 3).toInt64)) + 12345) - ((1103515245 * ((b.1 3).toInt64)) + 12345) / 2147483648 * 2147483648).toInt32)) fun (b_1 : BS) => if 1 ≤ a1 then ((((b_1.1 3) / 65536) - ((b_1.1 3) / 65536) / a1 * a1, b_1)) else ((0, b_1))
def kX2_draw (b : BS) (a1 : Int32) : Prop := lt (bsi b 3 ((((1103515245 * ((b.1 3).toInt64)) + 12345) - ((1103515245 * ((b.1 3).toInt64)) + 12345) / 2147483648 * 2147483648).toInt32)) fun (b_1 : BS) => if 1 ≤ a1 then (¬ a1 = 0) else (True)
abbrev rX2_draw : Room := { frames := 0, cells := 0, slots := 0, locals := 0 }
set_option maxHeartbeats 4000000 in
set_option maxRecDepth 100000 in
theorem mX2_draw (l : Launch) (dC : Nat → ClassId) (dI : Nat → Nat → Nat) (cI cB cO cL : ClassId) (qb : Nat → Nat) (b : BS) (a1 : Int32) (hI : gD (fun _ => True) (bAd qb)) (hok : kX2_draw b a1) : Met l yX2_draw wsX2_draw rX2_draw (cP (dC, dI) (tYS cI cB cO cL) (bw qb cI b) [.ref (qb 0), .int a1]) (gQi (dC, dI) (fun z9 => bw qb cI z9) (wA (bw qb cI b)) (pX2_draw b a1)) 0 0 (wA (bw qb cI b)) := by
  refine cMet (cc := cX2_draw) (maxL := 2) (ret := some .int) [(0, .ref (qb 0)), (1, .int a1)] (by decide) rfl rfl rfl ?_
  intro p e s mi below meth c C0 hK hE hP ls hl
  obtain ⟨hx, hb, hr, hml, hown, hts, hlocks⟩ := id C0
  have hown : s.vm.findClass RX2 = some mi.cls := hown
  have hS : va_S (wA (bw qb cI b)) s.heap s.heap [] := va_S.rf
  have hD : gD (wA (bw qb cI b)) (bAd qb) := gD_wA (ws := bw qb cI b) hI
  have hP : va_P (dC, dI) vwCl (bw qb cI b) s.heap := hP
  obtain ⟨F, hF⟩ : ∃ F, F = pX2_draw b a1 := ⟨_, rfl⟩
  have hf := hF
  have hin2 : ∀ w ∈ u_ws RX2 TX2 8, w ∈ wsX2_draw := by decide +kernel
  have cn121 := hts (.constantLong RX2 121 (1103515245)) (by decide +kernel)
  have fl21 := hts (.fieldLink RX2 21 "ClickBench$Bench" "s" "I") (by decide +kernel)
  have cn123 := hts (.constantLong RX2 123 (12345)) (by decide +kernel)
  have cn125 := hts (.constantLong RX2 125 (2147483648)) (by decide +kernel)
  have cn127 := hts (.constant RX2 127 (65536)) (by decide +kernel)
  refine lv_aload_n hx hb dX2_draw_0 rfl (lv_at hl 0 rfl) ?_
  refine lv_ldc2 (v := 1103515245) hx hb hown cn121 dX2_draw_1 ?_
  refine lv_aload_n hx hb dX2_draw_4 rfl (lv_at hl 0 rfl) ?_
  refine va_get (D := (dC, dI)) (ci := 1) (v := .int (b.1 3)) (C := RX2) (T := TX2) (N := 8) hx hb hts hin2 hown hK hP 0 rfl rfl 3 (by decide) fl21 (fun _ h9 => h9) rfl dX2_draw_5 ?_
  refine lv_i2l hx hb dX2_draw_8 rfl ?_
  refine lv_lmul hx hb dX2_draw_9 ?_
  refine lv_ldc2 (v := 12345) hx hb hown cn123 dX2_draw_10 ?_
  refine lv_ladd hx hb dX2_draw_13 ?_
  refine lv_ldc2 (v := 2147483648) hx hb hown cn125 dX2_draw_14 ?_
  refine lv_lrem hx hb dX2_draw_17 (by decide) ?_
  refine lv_l2i hx hb dX2_draw_18 rfl ?_
  refine va_put (D := (dC, dI)) (ci := 1) (v := .int ((((1103515245 * ((b.1 3).toInt64)) + 12345) - ((1103515245 * ((b.1 3).toInt64)) + 12345) / 2147483648 * 2147483648).toInt32)) (ty := .int) (C := RX2) (T := TX2) (N := 8) hx hb hts hin2 tyX2 tyX2_ok nmX2 hown hK hP (gD_va hD rfl) hS 0 rfl rfl 3 (by decide) fl21 (fun _ h9 => h9) rfl (by decide +kernel) rfl rfl (Nat.le_of_ble_eq_true rfl) dX2_draw_19 (fun H locs hP _ hS => ?_)
  obtain ⟨b_1, eb_1⟩ : ∃ z9 : BS, z9 = bsi b 3 ((((1103515245 * ((b.1 3).toInt64)) + 12345) - ((1103515245 * ((b.1 3).toInt64)) + 12345) / 2147483648 * 2147483648).toInt32) := ⟨_, rfl⟩
  have hP : va_P (dC, dI) vwCl (bw qb cI b_1) H := by rw [eb_1]; exact hP
  have hf := lt_eq eb_1 hf
  have hok := lt_ok eb_1 hok
  refine lv_iload_n hx hb dX2_draw_22 rfl (lv_at hl 1 rfl) ?_
  refine lv_iconst (v := 1) hx hb dX2_draw_23 (by decide) ?_
  refine lv_icmp_ge (tgt := 31) hx hb dX2_draw_24 (by decide) (fun c2 => ?_) (fun c2 => ?_)
  · have hf := it_eq c2 hf
    have hok := it_ok c2 hok
    refine lv_aload_n hx hb dX2_draw_31 rfl (lv_at hl 0 rfl) ?_
    refine va_get (D := (dC, dI)) (ci := 1) (v := .int (b_1.1 3)) (C := RX2) (T := TX2) (N := 8) hx hb hts hin2 hown hK hP 0 rfl rfl 3 (by decide) fl21 (fun _ h9 => h9) rfl dX2_draw_32 ?_
    refine lv_ldc (v := 65536) hx hb hown cn127 dX2_draw_35 ?_
    refine lv_idiv hx hb dX2_draw_37 (by decide) ?_
    refine lv_iload_n hx hb dX2_draw_38 rfl (lv_at hl 1 rfl) ?_
    have h3 : ¬ a1 = 0 := hok
    refine lv_irem hx hb dX2_draw_39 h3 ?_
    exact e_mi C0 (hf.symm.trans hF) hP hS dX2_draw_40
  · have hf := ie_eq c2 hf
    refine lv_iconst (v := 0) hx hb dX2_draw_27 (by decide) ?_
    refine lv_goto (tgt := 40) hx hb dX2_draw_28 (by decide) ?_
    exact e_mi C0 (hf.symm.trans hF) hP hS dX2_draw_40
noncomputable def pX2_copyFrom (b : BS) (b2 : BS) : BS × BS := lt (bsi b 0 (b2.1 0)) fun (b_1 : BS) => lt (bsi b_1 1 (b2.1 1)) fun (b_2 : BS) => lt (bsi b_2 2 (b2.1 2)) fun (b_3 : BS) => lt (bsi b_3 3 (b2.1 3)) fun (b_4 : BS) => lt (pX9_copyFrom 8 9 72 8 9 72 (b_4.1 4, b_4.2 0) (b2.1 4, b2.2 0)) fun (u7 : TS × TS) => lt (pX9_copyFrom 4 3 12 4 3 12 ((bst b_4 0 u7.1).1 5, (bst b_4 0 u7.1).2 1) ((bst b2 0 u7.2).1 5, (bst b2 0 u7.2).2 1)) fun (u10 : TS × TS) => lt (pX9_copyFrom 4 4 16 4 4 16 ((bst (bst b_4 0 u7.1) 1 u10.1).1 6, (bst (bst b_4 0 u7.1) 1 u10.1).2 2) ((bst (bst b2 0 u7.2) 1 u10.2).1 6, (bst (bst b2 0 u7.2) 1 u10.2).2 2)) fun (u13 : TS × TS) => lt (pX9_copyFrom 7 1 7 7 1 7 ((bst (bst (bst b_4 0 u7.1) 1 u10.1) 2 u13.1).1 7, (bst (bst (bst b_4 0 u7.1) 1 u10.1) 2 u13.1).2 3) ((bst (bst (bst b2 0 u7.2) 1 u10.2) 2 u13.2).1 7, (bst (bst (bst b2 0 u7.2) 1 u10.2) 2 u13.2).2 3)) fun (u16 : TS × TS) => (bst (bst (bst (bst b_4 0 u7.1) 1 u10.1) 2 u13.1) 3 u16.1, bst (bst (bst (bst b2 0 u7.2) 1 u10.2) 2 u13.2) 3 u16.2)
def kX2_copyFrom (b : BS) (b2 : BS) : Prop := lt (bsi b 0 (b2.1 0)) fun (b_1 : BS) => lt (bsi b_1 1 (b2.1 1)) fun (b_2 : BS) => lt (bsi b_2 2 (b2.1 2)) fun (b_3 : BS) => lt (bsi b_3 3 (b2.1 3)) fun (b_4 : BS) => (kX9_copyFrom 8 9 72 8 9 72 (b_4.1 4, b_4.2 0) (b2.1 4, b2.2 0)) ∧ (lt (pX9_copyFrom 8 9 72 8 9 72 (b_4.1 4, b_4.2 0) (b2.1 4, b2.2 0)) fun (u7 : TS × TS) => (kX9_copyFrom 4 3 12 4 3 12 ((bst b_4 0 u7.1).1 5, (bst b_4 0 u7.1).2 1) ((bst b2 0 u7.2).1 5, (bst b2 0 u7.2).2 1)) ∧ (lt (pX9_copyFrom 4 3 12 4 3 12 ((bst b_4 0 u7.1).1 5, (bst b_4 0 u7.1).2 1) ((bst b2 0 u7.2).1 5, (bst b2 0 u7.2).2 1)) fun (u10 : TS × TS) => (kX9_copyFrom 4 4 16 4 4 16 ((bst (bst b_4 0 u7.1) 1 u10.1).1 6, (bst (bst b_4 0 u7.1) 1 u10.1).2 2) ((bst (bst b2 0 u7.2) 1 u10.2).1 6, (bst (bst b2 0 u7.2) 1 u10.2).2 2)) ∧ (lt (pX9_copyFrom 4 4 16 4 4 16 ((bst (bst b_4 0 u7.1) 1 u10.1).1 6, (bst (bst b_4 0 u7.1) 1 u10.1).2 2) ((bst (bst b2 0 u7.2) 1 u10.2).1 6, (bst (bst b2 0 u7.2) 1 u10.2).2 2)) fun (u13 : TS × TS) => kX9_copyFrom 7 1 7 7 1 7 ((bst (bst (bst b_4 0 u7.1) 1 u10.1) 2 u13.1).1 7, (bst (bst (bst b_4 0 u7.1) 1 u10.1) 2 u13.1).2 3) ((bst (bst (bst b2 0 u7.2) 1 u10.2) 2 u13.2).1 7, (bst (bst (bst b2 0 u7.2) 1 u10.2) 2 u13.2).2 3))))
abbrev rX2_copyFrom : Room := { frames := 2, cells := 0, slots := 0, locals := 61 }
set_option maxHeartbeats 4000000 in
set_option maxRecDepth 100000 in
theorem mX2_copyFrom (l : Launch) (dC : Nat → ClassId) (dI : Nat → Nat → Nat) (cI cB cO cL : ClassId) (qb : Nat → Nat) (qb2 : Nat → Nat) (b : BS) (b2 : BS) (hI : gD (fun _ => True) (bAd qb ++ bAd qb2)) (hok : kX2_copyFrom b b2) : Met l yX2_copyFrom wsX2_copyFrom rX2_copyFrom (cP (dC, dI) (tYS cI cB cO cL) (bw qb cI b ++ bw qb2 cI b2) [.ref (qb 0), .ref (qb2 0)]) (gQv (dC, dI) (fun z9 : BS × BS => bw qb cI z9.1 ++ bw qb2 cI z9.2) (wA (bw qb cI b ++ bw qb2 cI b2)) (pX2_copyFrom b b2)) 0 0 (wA (bw qb cI b ++ bw qb2 cI b2)) := by
  refine cMet (cc := cX2_copyFrom) (maxL := 2) (ret := none) [(0, .ref (qb 0)), (1, .ref (qb2 0))] (by decide) rfl rfl rfl ?_
  intro p e s mi below meth c C0 hK hE hP ls hl
  obtain ⟨hx, hb, hr, hml, hown, hts, hlocks⟩ := id C0
  have hown : s.vm.findClass RX2 = some mi.cls := hown
  have hS : va_S (wA (bw qb cI b ++ bw qb2 cI b2)) s.heap s.heap [] := va_S.rf
  have hD : gD (wA (bw qb cI b ++ bw qb2 cI b2)) (bAd qb ++ bAd qb2) := gD_wA (ws := bw qb cI b ++ bw qb2 cI b2) hI
  have hP : va_P (dC, dI) vwCl (bw qb cI b ++ bw qb2 cI b2) s.heap := hP
  obtain ⟨F, hF⟩ : ∃ F, F = pX2_copyFrom b b2 := ⟨_, rfl⟩
  have hf := hF
  have hin2 : ∀ w ∈ u_ws RX2 TX2 8, w ∈ wsX2_copyFrom := by decide +kernel
  have fl9 := hts (.fieldLink RX2 9 "ClickBench$Bench" "columns" "I") (by decide +kernel)
  have fl15 := hts (.fieldLink RX2 15 "ClickBench$Bench" "rows" "I") (by decide +kernel)
  have fl18 := hts (.fieldLink RX2 18 "ClickBench$Bench" "clicks" "I") (by decide +kernel)
  have fl21 := hts (.fieldLink RX2 21 "ClickBench$Bench" "s" "I") (by decide +kernel)
  have fl29 := hts (.fieldLink RX2 29 "ClickBench$Bench" "microphones" "LClickBench$Table;") (by decide +kernel)
  have fl37 := hts (.fieldLink RX2 37 "ClickBench$Bench" "walls" "LClickBench$Table;") (by decide +kernel)
  have fl40 := hts (.fieldLink RX2 40 "ClickBench$Bench" "screens" "LClickBench$Table;") (by decide +kernel)
  have fl43 := hts (.fieldLink RX2 43 "ClickBench$Bench" "settings" "LClickBench$Table;") (by decide +kernel)
  refine lv_aload_n hx hb dX2_copyFrom_0 rfl (lv_at hl 0 rfl) ?_
  refine lv_aload_n hx hb dX2_copyFrom_1 rfl (lv_at hl 1 rfl) ?_
  refine va_get (D := (dC, dI)) (ci := 1) (v := .int (b2.1 0)) (C := RX2) (T := TX2) (N := 8) hx hb hts hin2 hown hK hP 9 rfl rfl 0 (by decide) fl9 (fun _ h9 => h9) rfl dX2_copyFrom_2 ?_
  refine va_put (D := (dC, dI)) (ci := 1) (v := .int (b2.1 0)) (ty := .int) (C := RX2) (T := TX2) (N := 8) hx hb hts hin2 tyX2 tyX2_ok nmX2 hown hK hP (gD_va hD rfl) hS 0 rfl rfl 0 (by decide) fl9 (fun _ h9 => h9) rfl (by decide +kernel) rfl rfl (Nat.le_of_ble_eq_true rfl) dX2_copyFrom_5 (fun H locs hP _ hS => ?_)
  obtain ⟨b_1, eb_1⟩ : ∃ z9 : BS, z9 = bsi b 0 (b2.1 0) := ⟨_, rfl⟩
  have hP : va_P (dC, dI) vwCl (bw qb cI b_1 ++ bw qb2 cI b2) H := by rw [eb_1]; exact hP
  have hf := lt_eq eb_1 hf
  have hok := lt_ok eb_1 hok
  refine lv_aload_n hx hb dX2_copyFrom_8 rfl (lv_at hl 0 rfl) ?_
  refine lv_aload_n hx hb dX2_copyFrom_9 rfl (lv_at hl 1 rfl) ?_
  refine va_get (D := (dC, dI)) (ci := 1) (v := .int (b2.1 1)) (C := RX2) (T := TX2) (N := 8) hx hb hts hin2 hown hK hP 9 rfl rfl 1 (by decide) fl15 (fun _ h9 => h9) rfl dX2_copyFrom_10 ?_
  refine va_put (D := (dC, dI)) (ci := 1) (v := .int (b2.1 1)) (ty := .int) (C := RX2) (T := TX2) (N := 8) hx hb hts hin2 tyX2 tyX2_ok nmX2 hown hK hP (gD_va hD rfl) hS 0 rfl rfl 1 (by decide) fl15 (fun _ h9 => h9) rfl (by decide +kernel) rfl rfl (Nat.le_of_ble_eq_true rfl) dX2_copyFrom_13 (fun H locs hP _ hS => ?_)
  obtain ⟨b_2, eb_2⟩ : ∃ z9 : BS, z9 = bsi b_1 1 (b2.1 1) := ⟨_, rfl⟩
  have hP : va_P (dC, dI) vwCl (bw qb cI b_2 ++ bw qb2 cI b2) H := by rw [eb_2]; exact hP
  have hf := lt_eq eb_2 hf
  have hok := lt_ok eb_2 hok
  refine lv_aload_n hx hb dX2_copyFrom_16 rfl (lv_at hl 0 rfl) ?_
  refine lv_aload_n hx hb dX2_copyFrom_17 rfl (lv_at hl 1 rfl) ?_
  refine va_get (D := (dC, dI)) (ci := 1) (v := .int (b2.1 2)) (C := RX2) (T := TX2) (N := 8) hx hb hts hin2 hown hK hP 9 rfl rfl 2 (by decide) fl18 (fun _ h9 => h9) rfl dX2_copyFrom_18 ?_
  refine va_put (D := (dC, dI)) (ci := 1) (v := .int (b2.1 2)) (ty := .int) (C := RX2) (T := TX2) (N := 8) hx hb hts hin2 tyX2 tyX2_ok nmX2 hown hK hP (gD_va hD rfl) hS 0 rfl rfl 2 (by decide) fl18 (fun _ h9 => h9) rfl (by decide +kernel) rfl rfl (Nat.le_of_ble_eq_true rfl) dX2_copyFrom_21 (fun H locs hP _ hS => ?_)
  obtain ⟨b_3, eb_3⟩ : ∃ z9 : BS, z9 = bsi b_2 2 (b2.1 2) := ⟨_, rfl⟩
  have hP : va_P (dC, dI) vwCl (bw qb cI b_3 ++ bw qb2 cI b2) H := by rw [eb_3]; exact hP
  have hf := lt_eq eb_3 hf
  have hok := lt_ok eb_3 hok
  refine lv_aload_n hx hb dX2_copyFrom_24 rfl (lv_at hl 0 rfl) ?_
  refine lv_aload_n hx hb dX2_copyFrom_25 rfl (lv_at hl 1 rfl) ?_
  refine va_get (D := (dC, dI)) (ci := 1) (v := .int (b2.1 3)) (C := RX2) (T := TX2) (N := 8) hx hb hts hin2 hown hK hP 9 rfl rfl 3 (by decide) fl21 (fun _ h9 => h9) rfl dX2_copyFrom_26 ?_
  refine va_put (D := (dC, dI)) (ci := 1) (v := .int (b2.1 3)) (ty := .int) (C := RX2) (T := TX2) (N := 8) hx hb hts hin2 tyX2 tyX2_ok nmX2 hown hK hP (gD_va hD rfl) hS 0 rfl rfl 3 (by decide) fl21 (fun _ h9 => h9) rfl (by decide +kernel) rfl rfl (Nat.le_of_ble_eq_true rfl) dX2_copyFrom_29 (fun H locs hP _ hS => ?_)
  obtain ⟨b_4, eb_4⟩ : ∃ z9 : BS, z9 = bsi b_3 3 (b2.1 3) := ⟨_, rfl⟩
  have hP : va_P (dC, dI) vwCl (bw qb cI b_4 ++ bw qb2 cI b2) H := by rw [eb_4]; exact hP
  have hf := lt_eq eb_4 hf
  have hok := lt_ok eb_4 hok
  refine lv_aload_n hx hb dX2_copyFrom_32 rfl (lv_at hl 0 rfl) ?_
  refine va_get (D := (dC, dI)) (ci := 1) (v := .ref (qb 1)) (C := RX2) (T := TX2) (N := 8) hx hb hts hin2 hown hK hP 0 rfl rfl 4 (by decide) fl29 (fun _ h9 => h9) rfl dX2_copyFrom_33 ?_
  refine lv_aload_n hx hb dX2_copyFrom_36 rfl (lv_at hl 1 rfl) ?_
  refine va_get (D := (dC, dI)) (ci := 1) (v := .ref (qb2 1)) (C := RX2) (T := TX2) (N := 8) hx hb hts hin2 hown hK hP 9 rfl rfl 4 (by decide) fl29 (fun _ h9 => h9) rfl dX2_copyFrom_37 ?_
  obtain ⟨h5, hok⟩ := hok
  have hPc := hP.sub (ws' := tw (tad (qb 1) (qb 2)) cI 8 9 72 (b_4.1 4, b_4.2 0) ++ tw (tad (qb2 1) (qb2 2)) cI 8 9 72 (b2.1 4, b2.2 0)) [1, 2, 10, 11] rfl
  refine gmu_v (va_runV (As := [.ref (qb2 1)]) (rest := []) ⟨hx, hb, hml, hown, hts⟩ (mX9_copyFrom l dC dI cI cB cO cL (tad (qb 1) (qb 2)) (tad (qb2 1) (qb2 2)) 8 9 72 8 9 72 (b_4.1 4, b_4.2 0) (b2.1 4, b2.2 0) (gD_subT hD [1, 2, 10, 11] rfl rfl) h5) (cwV 1 hts gX2_copyFrom_X9_copyFrom rfl rfl rfl (by decide +kernel) ⟨Nat.le_of_ble_eq_true rfl, Nat.le_of_ble_eq_true rfl⟩) ⟨cP_blind, va_recv hK hPc (ci := 6) (q0 := 0) rfl rfl, cP_ok hPc hK hE⟩ rfl rfl hl.1 rfl (lv_room (Nat.le_of_ble_eq_true rfl)) dX2_copyFrom_40 ⟨Nat.zero_le _, Nat.zero_le _⟩) hP (gD_va hD rfl) hS [1, 2, 10, 11] rfl (fun _ => rfl) (fun u7 H locs hw hP hS => ?_)
  have hP : va_P (dC, dI) vwCl (bw qb cI (bst b_4 0 u7.1) ++ bw qb2 cI (bst b2 0 u7.2)) H := hP
  have hf := lt_eq hw hf
  have hok := lt_ok hw hok
  refine lv_aload_n hx hb dX2_copyFrom_43 rfl (lv_at hl 0 rfl) ?_
  refine va_get (D := (dC, dI)) (ci := 1) (v := .ref (qb 3)) (C := RX2) (T := TX2) (N := 8) hx hb hts hin2 hown hK hP 0 rfl rfl 5 (by decide) fl37 (fun _ h9 => h9) rfl dX2_copyFrom_44 ?_
  refine lv_aload_n hx hb dX2_copyFrom_47 rfl (lv_at hl 1 rfl) ?_
  refine va_get (D := (dC, dI)) (ci := 1) (v := .ref (qb2 3)) (C := RX2) (T := TX2) (N := 8) hx hb hts hin2 hown hK hP 9 rfl rfl 5 (by decide) fl37 (fun _ h9 => h9) rfl dX2_copyFrom_48 ?_
  obtain ⟨h8, hok⟩ := hok
  have hPc := hP.sub (ws' := tw (tad (qb 3) (qb 4)) cI 4 3 12 ((bst b_4 0 u7.1).1 5, (bst b_4 0 u7.1).2 1) ++ tw (tad (qb2 3) (qb2 4)) cI 4 3 12 ((bst b2 0 u7.2).1 5, (bst b2 0 u7.2).2 1)) [3, 4, 12, 13] rfl
  refine gmu_v (va_runV (As := [.ref (qb2 3)]) (rest := []) ⟨hx, hb, hml, hown, hts⟩ (mX9_copyFrom l dC dI cI cB cO cL (tad (qb 3) (qb 4)) (tad (qb2 3) (qb2 4)) 4 3 12 4 3 12 ((bst b_4 0 u7.1).1 5, (bst b_4 0 u7.1).2 1) ((bst b2 0 u7.2).1 5, (bst b2 0 u7.2).2 1) (gD_subT hD [3, 4, 12, 13] rfl rfl) h8) (cwV 1 hts gX2_copyFrom_X9_copyFrom rfl rfl rfl (by decide +kernel) ⟨Nat.le_of_ble_eq_true rfl, Nat.le_of_ble_eq_true rfl⟩) ⟨cP_blind, va_recv hK hPc (ci := 6) (q0 := 0) rfl rfl, cP_ok hPc hK hE⟩ rfl rfl hl.1 rfl (lv_room (Nat.le_of_ble_eq_true rfl)) dX2_copyFrom_51 ⟨Nat.zero_le _, Nat.zero_le _⟩) hP (gD_va hD rfl) hS [3, 4, 12, 13] rfl (fun _ => rfl) (fun u10 H locs hw hP hS => ?_)
  have hP : va_P (dC, dI) vwCl (bw qb cI (bst (bst b_4 0 u7.1) 1 u10.1) ++ bw qb2 cI (bst (bst b2 0 u7.2) 1 u10.2)) H := hP
  have hf := lt_eq hw hf
  have hok := lt_ok hw hok
  refine lv_aload_n hx hb dX2_copyFrom_54 rfl (lv_at hl 0 rfl) ?_
  refine va_get (D := (dC, dI)) (ci := 1) (v := .ref (qb 5)) (C := RX2) (T := TX2) (N := 8) hx hb hts hin2 hown hK hP 0 rfl rfl 6 (by decide) fl40 (fun _ h9 => h9) rfl dX2_copyFrom_55 ?_
  refine lv_aload_n hx hb dX2_copyFrom_58 rfl (lv_at hl 1 rfl) ?_
  refine va_get (D := (dC, dI)) (ci := 1) (v := .ref (qb2 5)) (C := RX2) (T := TX2) (N := 8) hx hb hts hin2 hown hK hP 9 rfl rfl 6 (by decide) fl40 (fun _ h9 => h9) rfl dX2_copyFrom_59 ?_
  obtain ⟨h11, hok⟩ := hok
  have hPc := hP.sub (ws' := tw (tad (qb 5) (qb 6)) cI 4 4 16 ((bst (bst b_4 0 u7.1) 1 u10.1).1 6, (bst (bst b_4 0 u7.1) 1 u10.1).2 2) ++ tw (tad (qb2 5) (qb2 6)) cI 4 4 16 ((bst (bst b2 0 u7.2) 1 u10.2).1 6, (bst (bst b2 0 u7.2) 1 u10.2).2 2)) [5, 6, 14, 15] rfl
  refine gmu_v (va_runV (As := [.ref (qb2 5)]) (rest := []) ⟨hx, hb, hml, hown, hts⟩ (mX9_copyFrom l dC dI cI cB cO cL (tad (qb 5) (qb 6)) (tad (qb2 5) (qb2 6)) 4 4 16 4 4 16 ((bst (bst b_4 0 u7.1) 1 u10.1).1 6, (bst (bst b_4 0 u7.1) 1 u10.1).2 2) ((bst (bst b2 0 u7.2) 1 u10.2).1 6, (bst (bst b2 0 u7.2) 1 u10.2).2 2) (gD_subT hD [5, 6, 14, 15] rfl rfl) h11) (cwV 1 hts gX2_copyFrom_X9_copyFrom rfl rfl rfl (by decide +kernel) ⟨Nat.le_of_ble_eq_true rfl, Nat.le_of_ble_eq_true rfl⟩) ⟨cP_blind, va_recv hK hPc (ci := 6) (q0 := 0) rfl rfl, cP_ok hPc hK hE⟩ rfl rfl hl.1 rfl (lv_room (Nat.le_of_ble_eq_true rfl)) dX2_copyFrom_62 ⟨Nat.zero_le _, Nat.zero_le _⟩) hP (gD_va hD rfl) hS [5, 6, 14, 15] rfl (fun _ => rfl) (fun u13 H locs hw hP hS => ?_)
  have hP : va_P (dC, dI) vwCl (bw qb cI (bst (bst (bst b_4 0 u7.1) 1 u10.1) 2 u13.1) ++ bw qb2 cI (bst (bst (bst b2 0 u7.2) 1 u10.2) 2 u13.2)) H := hP
  have hf := lt_eq hw hf
  have hok := lt_ok hw hok
  refine lv_aload_n hx hb dX2_copyFrom_65 rfl (lv_at hl 0 rfl) ?_
  refine va_get (D := (dC, dI)) (ci := 1) (v := .ref (qb 7)) (C := RX2) (T := TX2) (N := 8) hx hb hts hin2 hown hK hP 0 rfl rfl 7 (by decide) fl43 (fun _ h9 => h9) rfl dX2_copyFrom_66 ?_
  refine lv_aload_n hx hb dX2_copyFrom_69 rfl (lv_at hl 1 rfl) ?_
  refine va_get (D := (dC, dI)) (ci := 1) (v := .ref (qb2 7)) (C := RX2) (T := TX2) (N := 8) hx hb hts hin2 hown hK hP 9 rfl rfl 7 (by decide) fl43 (fun _ h9 => h9) rfl dX2_copyFrom_70 ?_
  have h14 : kX9_copyFrom 7 1 7 7 1 7 ((bst (bst (bst b_4 0 u7.1) 1 u10.1) 2 u13.1).1 7, (bst (bst (bst b_4 0 u7.1) 1 u10.1) 2 u13.1).2 3) ((bst (bst (bst b2 0 u7.2) 1 u10.2) 2 u13.2).1 7, (bst (bst (bst b2 0 u7.2) 1 u10.2) 2 u13.2).2 3) := hok
  have hPc := hP.sub (ws' := tw (tad (qb 7) (qb 8)) cI 7 1 7 ((bst (bst (bst b_4 0 u7.1) 1 u10.1) 2 u13.1).1 7, (bst (bst (bst b_4 0 u7.1) 1 u10.1) 2 u13.1).2 3) ++ tw (tad (qb2 7) (qb2 8)) cI 7 1 7 ((bst (bst (bst b2 0 u7.2) 1 u10.2) 2 u13.2).1 7, (bst (bst (bst b2 0 u7.2) 1 u10.2) 2 u13.2).2 3)) [7, 8, 16, 17] rfl
  refine gmu_v (va_runV (As := [.ref (qb2 7)]) (rest := []) ⟨hx, hb, hml, hown, hts⟩ (mX9_copyFrom l dC dI cI cB cO cL (tad (qb 7) (qb 8)) (tad (qb2 7) (qb2 8)) 7 1 7 7 1 7 ((bst (bst (bst b_4 0 u7.1) 1 u10.1) 2 u13.1).1 7, (bst (bst (bst b_4 0 u7.1) 1 u10.1) 2 u13.1).2 3) ((bst (bst (bst b2 0 u7.2) 1 u10.2) 2 u13.2).1 7, (bst (bst (bst b2 0 u7.2) 1 u10.2) 2 u13.2).2 3) (gD_subT hD [7, 8, 16, 17] rfl rfl) h14) (cwV 1 hts gX2_copyFrom_X9_copyFrom rfl rfl rfl (by decide +kernel) ⟨Nat.le_of_ble_eq_true rfl, Nat.le_of_ble_eq_true rfl⟩) ⟨cP_blind, va_recv hK hPc (ci := 6) (q0 := 0) rfl rfl, cP_ok hPc hK hE⟩ rfl rfl hl.1 rfl (lv_room (Nat.le_of_ble_eq_true rfl)) dX2_copyFrom_73 ⟨Nat.zero_le _, Nat.zero_le _⟩) hP (gD_va hD rfl) hS [7, 8, 16, 17] rfl (fun _ => rfl) (fun u16 H locs hw hP hS => ?_)
  have hP : va_P (dC, dI) vwCl (bw qb cI (bst (bst (bst (bst b_4 0 u7.1) 1 u10.1) 2 u13.1) 3 u16.1) ++ bw qb2 cI (bst (bst (bst (bst b2 0 u7.2) 1 u10.2) 2 u13.2) 3 u16.2)) H := hP
  have hf := lt_eq hw hf
  exact e_mv C0 (hf.symm.trans hF) hP hS dX2_copyFrom_76
noncomputable def pX1_append_L34   (v2_34 : Int32) (v3_34 : Int32) (v4_34 : Int32) (v5_34 : Int32) (t0_34 : Bool) (t1_34 : Bool) (t_34 : TS) (b_34 : BS) : TS × BS := lt ((bz t0_34) + (bz t1_34)) fun (x6 : Int32) => bd (pX9_addRow 17 6 102 t_34) fun (r8 : Int32) (u9 : TS) => lt (pX9_put 17 6 102 u9 r8 0 x6) fun (u12 : TS) => lt (pX9_put 17 6 102 u12 r8 1 v2_34) fun (u15 : TS) => lt (pX9_put 17 6 102 u15 r8 2 (pX2_timeFor b_34 v2_34)) fun (u19 : TS) => lt (pX9_put 17 6 102 u19 r8 3 (pX2_strengthBehind b_34 v4_34 v5_34)) fun (u23 : TS) => lt (pX9_put 17 6 102 u23 r8 4 v3_34) fun (u26 : TS) => lt (pX9_put 17 6 102 u26 r8 5 v4_34) fun (u29 : TS) => (u29, b_34)
def kX1_append_L34   (v2_34 : Int32) (v3_34 : Int32) (v4_34 : Int32) (v5_34 : Int32) (t0_34 : Bool) (t1_34 : Bool) (t_34 : TS) (b_34 : BS) : Prop := lt ((bz t0_34) + (bz t1_34)) fun (x6 : Int32) => (kX9_addRow 17 6 102 t_34) ∧ (bd (pX9_addRow 17 6 102 t_34) fun (r8 : Int32) (u9 : TS) => (kX9_put 17 6 102 u9 r8 0 x6) ∧ (lt (pX9_put 17 6 102 u9 r8 0 x6) fun (u12 : TS) => (kX9_put 17 6 102 u12 r8 1 v2_34) ∧ (lt (pX9_put 17 6 102 u12 r8 1 v2_34) fun (u15 : TS) => (kX2_timeFor b_34 v2_34) ∧ ((kX9_put 17 6 102 u15 r8 2 (pX2_timeFor b_34 v2_34)) ∧ (lt (pX9_put 17 6 102 u15 r8 2 (pX2_timeFor b_34 v2_34)) fun (u19 : TS) => (kX2_strengthBehind b_34 v4_34 v5_34) ∧ ((kX9_put 17 6 102 u19 r8 3 (pX2_strengthBehind b_34 v4_34 v5_34)) ∧ (lt (pX9_put 17 6 102 u19 r8 3 (pX2_strengthBehind b_34 v4_34 v5_34)) fun (u23 : TS) => (kX9_put 17 6 102 u23 r8 4 v3_34) ∧ (lt (pX9_put 17 6 102 u23 r8 4 v3_34) fun (u26 : TS) => kX9_put 17 6 102 u26 r8 5 v4_34))))))))
noncomputable def pX1_append_L22   (v2_22 : Int32) (v3_22 : Int32) (v4_22 : Int32) (v5_22 : Int32) (t0_22 : Bool) (t_22 : TS) (b_22 : BS) : TS × BS := if v4_22 = (-1000000000) then (pX1_append_L34 v2_22 v3_22 v4_22 v5_22 t0_22 false t_22 b_22) else (pX1_append_L34 v2_22 v3_22 v4_22 v5_22 t0_22 true t_22 b_22)
def kX1_append_L22   (v2_22 : Int32) (v3_22 : Int32) (v4_22 : Int32) (v5_22 : Int32) (t0_22 : Bool) (t_22 : TS) (b_22 : BS) : Prop := if v4_22 = (-1000000000) then (kX1_append_L34 v2_22 v3_22 v4_22 v5_22 t0_22 false t_22 b_22) else (kX1_append_L34 v2_22 v3_22 v4_22 v5_22 t0_22 true t_22 b_22)
noncomputable def pX1_append (t : TS) (b : BS) (a2 : Int32) (a3 : Int32) (a4 : Int32) : TS × BS := lt (pX2_strengthBehind b a3 (pX7_strength a2)) fun (x3 : Int32) => if a3 = (-1000000000) then (pX1_append_L22 a2 a3 a4 x3 false t b) else (pX1_append_L22 a2 a3 a4 x3 true t b)
def kX1_append (t : TS) (b : BS) (a2 : Int32) (a3 : Int32) (a4 : Int32) : Prop := (kX7_strength a2) ∧ ((kX2_strengthBehind b a3 (pX7_strength a2)) ∧ (lt (pX2_strengthBehind b a3 (pX7_strength a2)) fun (x3 : Int32) => if a3 = (-1000000000) then (kX1_append_L22 a2 a3 a4 x3 false t b) else (kX1_append_L22 a2 a3 a4 x3 true t b)))
abbrev rX1_append : Room := { frames := 2, cells := 0, slots := 0, locals := 45 }
set_option maxHeartbeats 4000000 in
set_option maxRecDepth 100000 in
theorem mX1_append (l : Launch) (dC : Nat → ClassId) (dI : Nat → Nat → Nat) (cI cB cO cL : ClassId) (qa : Nat → Nat) (qb : Nat → Nat) (t : TS) (b : BS) (a2 : Int32) (a3 : Int32) (a4 : Int32) (hI : gD (fun _ => True) (aAd qa ++ bAd qb)) (hok : kX1_append t b a2 a3 a4) : Met l yX1_append wsX1_append rX1_append (cP (dC, dI) (tYS cI cB cO cL) (aw qa cI t ++ bw qb cI b) [.ref (qa 0), .ref (qb 0), .int a2, .int a3, .int a4]) (gQv (dC, dI) (fun z9 : TS × BS => aw qa cI z9.1 ++ bw qb cI z9.2) (wA (aw qa cI t ++ bw qb cI b)) (pX1_append t b a2 a3 a4)) 0 0 (wA (aw qa cI t ++ bw qb cI b)) := by
  refine cMet (cc := cX1_append) (maxL := 8) (ret := none) [(0, .ref (qa 0)), (1, .ref (qb 0)), (2, .int a2), (3, .int a3), (4, .int a4)] (by decide) rfl rfl rfl ?_
  intro p e s mi below meth c C0 hK hE hP ls hl
  obtain ⟨hx, hb, hr, hml, hown, hts, hlocks⟩ := id C0
  have hown : s.vm.findClass RX1 = some mi.cls := hown
  have hS : va_S (wA (aw qa cI t ++ bw qb cI b)) s.heap s.heap [] := va_S.rf
  have hD : gD (wA (aw qa cI t ++ bw qb cI b)) (aAd qa ++ bAd qb) := gD_wA (ws := aw qa cI t ++ bw qb cI b) hI
  have hP : va_P (dC, dI) vwCl (aw qa cI t ++ bw qb cI b) s.heap := hP
  obtain ⟨F, hF⟩ : ∃ F, F = pX1_append t b a2 a3 a4 := ⟨_, rfl⟩
  have hf := hF
  have hin1 : ∀ w ∈ u_ws RX1 TX1 1, w ∈ wsX1_append := by decide +kernel
  have cn34 := hts (.constant RX1 34 (-1000000000)) (by decide +kernel)
  have fl14 := hts (.fieldLink RX1 14 "ClickBench$Arrivals" "list" "LClickBench$Table;") (by decide +kernel)
  have J_34 : ∀ (v2_34 : Int32) (v3_34 : Int32) (v4_34 : Int32) (v5_34 : Int32) (t0_34 : Bool) (t1_34 : Bool) (t_34 : TS) (b_34 : BS) (H : Heap) (locs : List Loc), va_P (dC, dI) vwCl (aw qa cI t_34 ++ bw qb cI b_34) H → va_S (wA (aw qa cI t ++ bw qb cI b)) s.heap H locs → ∀ ls : Array Slot, lv_has ls 8 [(0, .ref (qa 0)), (1, .ref (qb 0)), (2, .int v2_34), (3, .int v3_34), (4, .int v4_34), (5, .int v5_34)] → F = pX1_append_L34 v2_34 v3_34 v4_34 v5_34 t0_34 t1_34 t_34 b_34 → kX1_append_L34 v2_34 v3_34 v4_34 v5_34 t0_34 t1_34 t_34 b_34 → W p l e rX1_append s mi ([.ref (qa 0), .ref (qb 0), .int a2, .int a3, .int a4] : List Value).toArray below meth c H locs 0 0 (MQ below (gQv (dC, dI) (fun z9 : TS × BS => aw qa cI z9.1 ++ bw qb cI z9.2) (wA (aw qa cI t ++ bw qb cI b)) (pX1_append t b a2 a3 a4)) ([.ref (qa 0), .ref (qb 0), .int a2, .int a3, .int a4] : List Value).toArray s 0 0 (wA (aw qa cI t ++ bw qb cI b))) (F0 mi 34 ls [.int (bz t1_34), .int (bz t0_34)]) := by
    intro v2_34 v3_34 v4_34 v5_34 t0_34 t1_34 t_34 b_34 H locs hP hS ls hl hf hok
    refine lv_iadd hx hb dX1_append_34 ?_
    refine lv_topi (fun x6 ex6 => ?_)
    have hf := lt_eq ex6 hf
    have hok := lt_ok ex6 hok
    refine lv_istore (lv' := [(6, .int x6), (0, .ref (qa 0)), (1, .ref (qb 0)), (2, .int v2_34), (3, .int v3_34), (4, .int v4_34), (5, .int v5_34)]) hx hb dX1_append_35 hl (by decide) rfl (fun ls hl => ?_)
    refine lv_aload_n hx hb dX1_append_37 rfl (lv_at hl 1 rfl) ?_
    refine va_get (D := (dC, dI)) (ci := 0) (v := .ref (qa 1)) (C := RX1) (T := TX1) (N := 1) hx hb hts hin1 hown hK hP 0 rfl rfl 0 (by decide) fl14 (fun _ h9 => h9) rfl dX1_append_38 ?_
    obtain ⟨h7, hok⟩ := hok
    have hPc := hP.sub (ws' := tw (tad (qa 1) (qa 2)) cI 17 6 102 t_34) [1, 2] rfl
    refine gmu_i (va_runV (As := []) (rest := []) ⟨hx, hb, hml, hown, hts⟩ (mX9_addRow l dC dI cI cB cO cL (tad (qa 1) (qa 2)) 17 6 102 t_34 (gD_subT hD [1, 2] rfl rfl) h7) (cwV 0 hts gX1_append_X9_addRow rfl rfl rfl (by decide +kernel) ⟨Nat.le_of_ble_eq_true rfl, Nat.le_of_ble_eq_true rfl⟩) ⟨cP_blind, va_recv hK hPc (ci := 6) (q0 := 0) rfl rfl, cP_ok hPc hK hE⟩ rfl rfl hl.1 rfl (lv_room (Nat.le_of_ble_eq_true rfl)) dX1_append_41 ⟨Nat.zero_le _, Nat.zero_le _⟩) hP (gD_va hD rfl) hS [1, 2] rfl (fun _ => rfl) (fun r8 u9 H locs hw hP hS => ?_)
    have hP : va_P (dC, dI) vwCl (aw qa cI u9 ++ bw qb cI b_34) H := hP
    have hf := bd_eq hw hf
    have hok := bd_ok hw hok
    refine lv_istore (lv' := [(7, .int r8), (6, .int x6), (0, .ref (qa 0)), (1, .ref (qb 0)), (2, .int v2_34), (3, .int v3_34), (4, .int v4_34), (5, .int v5_34)]) hx hb dX1_append_44 hl (by decide) rfl (fun ls hl => ?_)
    refine lv_aload_n hx hb dX1_append_46 rfl (lv_at hl 2 rfl) ?_
    refine va_get (D := (dC, dI)) (ci := 0) (v := .ref (qa 1)) (C := RX1) (T := TX1) (N := 1) hx hb hts hin1 hown hK hP 0 rfl rfl 0 (by decide) fl14 (fun _ h9 => h9) rfl dX1_append_47 ?_
    refine lv_iload hx hb dX1_append_50 (lv_at hl 0 rfl) ?_
    refine lv_iconst (v := 0) hx hb dX1_append_52 (by decide) ?_
    refine lv_iload hx hb dX1_append_53 (lv_at hl 1 rfl) ?_
    obtain ⟨h10, hok⟩ := hok
    have hPc := hP.sub (ws' := tw (tad (qa 1) (qa 2)) cI 17 6 102 u9) [1, 2] rfl
    refine gmu_v (va_runV (As := [.int r8, .int 0, .int x6]) (rest := []) ⟨hx, hb, hml, hown, hts⟩ (mX9_put l dC dI cI cB cO cL (tad (qa 1) (qa 2)) 17 6 102 u9 r8 0 x6 (gD_subT hD [1, 2] rfl rfl) h10) (cwV 3 hts gX1_append_X9_put rfl rfl rfl (by decide +kernel) ⟨Nat.le_of_ble_eq_true rfl, Nat.le_of_ble_eq_true rfl⟩) ⟨cP_blind, va_recv hK hPc (ci := 6) (q0 := 0) rfl rfl, cP_ok hPc hK hE⟩ rfl rfl hl.1 rfl (lv_room (Nat.le_of_ble_eq_true rfl)) dX1_append_55 ⟨Nat.zero_le _, Nat.zero_le _⟩) hP (gD_va hD rfl) hS [1, 2] rfl (fun _ => rfl) (fun u12 H locs hw hP hS => ?_)
    have hP : va_P (dC, dI) vwCl (aw qa cI u12 ++ bw qb cI b_34) H := hP
    have hf := lt_eq hw hf
    have hok := lt_ok hw hok
    refine lv_aload_n hx hb dX1_append_58 rfl (lv_at hl 2 rfl) ?_
    refine va_get (D := (dC, dI)) (ci := 0) (v := .ref (qa 1)) (C := RX1) (T := TX1) (N := 1) hx hb hts hin1 hown hK hP 0 rfl rfl 0 (by decide) fl14 (fun _ h9 => h9) rfl dX1_append_59 ?_
    refine lv_iload hx hb dX1_append_62 (lv_at hl 0 rfl) ?_
    refine lv_iconst (v := 1) hx hb dX1_append_64 (by decide) ?_
    refine lv_iload_n hx hb dX1_append_65 rfl (lv_at hl 4 rfl) ?_
    obtain ⟨h13, hok⟩ := hok
    have hPc := hP.sub (ws' := tw (tad (qa 1) (qa 2)) cI 17 6 102 u12) [1, 2] rfl
    refine gmu_v (va_runV (As := [.int r8, .int 1, .int v2_34]) (rest := []) ⟨hx, hb, hml, hown, hts⟩ (mX9_put l dC dI cI cB cO cL (tad (qa 1) (qa 2)) 17 6 102 u12 r8 1 v2_34 (gD_subT hD [1, 2] rfl rfl) h13) (cwV 3 hts gX1_append_X9_put rfl rfl rfl (by decide +kernel) ⟨Nat.le_of_ble_eq_true rfl, Nat.le_of_ble_eq_true rfl⟩) ⟨cP_blind, va_recv hK hPc (ci := 6) (q0 := 0) rfl rfl, cP_ok hPc hK hE⟩ rfl rfl hl.1 rfl (lv_room (Nat.le_of_ble_eq_true rfl)) dX1_append_66 ⟨Nat.zero_le _, Nat.zero_le _⟩) hP (gD_va hD rfl) hS [1, 2] rfl (fun _ => rfl) (fun u15 H locs hw hP hS => ?_)
    have hP : va_P (dC, dI) vwCl (aw qa cI u15 ++ bw qb cI b_34) H := hP
    have hf := lt_eq hw hf
    have hok := lt_ok hw hok
    refine lv_aload_n hx hb dX1_append_69 rfl (lv_at hl 2 rfl) ?_
    refine va_get (D := (dC, dI)) (ci := 0) (v := .ref (qa 1)) (C := RX1) (T := TX1) (N := 1) hx hb hts hin1 hown hK hP 0 rfl rfl 0 (by decide) fl14 (fun _ h9 => h9) rfl dX1_append_70 ?_
    refine lv_iload hx hb dX1_append_73 (lv_at hl 0 rfl) ?_
    refine lv_iconst (v := 2) hx hb dX1_append_75 (by decide) ?_
    refine lv_aload_n hx hb dX1_append_76 rfl (lv_at hl 3 rfl) ?_
    refine lv_iload_n hx hb dX1_append_77 rfl (lv_at hl 4 rfl) ?_
    obtain ⟨h16, hok⟩ := hok
    have hPc := hP.sub (ws' := bw qb cI b_34) [3, 4, 5, 6, 7, 8, 9, 10, 11] rfl
    refine gro_i (va_runV (As := [.int v2_34]) (rest := [.int 2, .int r8, .ref (qa 1)]) ⟨hx, hb, hml, hown, hts⟩ (mX2_timeFor l dC dI cI cB cO cL qb b_34 v2_34  h16) (cwV 1 hts gX1_append_X2_timeFor rfl rfl rfl (by decide +kernel) ⟨Nat.le_of_ble_eq_true rfl, Nat.le_of_ble_eq_true rfl⟩) ⟨cP_blind, va_recv hK hPc (ci := 1) (q0 := 0) rfl rfl, cP_ok hPc hK hE⟩ rfl rfl hl.1 rfl (lv_room (Nat.le_of_ble_eq_true rfl)) dX1_append_78 ⟨Nat.zero_le _, Nat.zero_le _⟩) ?_
    obtain ⟨h17, hok⟩ := hok
    have hPc := hP.sub (ws' := tw (tad (qa 1) (qa 2)) cI 17 6 102 u15) [1, 2] rfl
    refine gmu_v (va_runV (As := [.int r8, .int 2, .int (pX2_timeFor b_34 v2_34)]) (rest := []) ⟨hx, hb, hml, hown, hts⟩ (mX9_put l dC dI cI cB cO cL (tad (qa 1) (qa 2)) 17 6 102 u15 r8 2 (pX2_timeFor b_34 v2_34) (gD_subT hD [1, 2] rfl rfl) h17) (cwV 3 hts gX1_append_X9_put rfl rfl rfl (by decide +kernel) ⟨Nat.le_of_ble_eq_true rfl, Nat.le_of_ble_eq_true rfl⟩) ⟨cP_blind, va_recv hK hPc (ci := 6) (q0 := 0) rfl rfl, cP_ok hPc hK hE⟩ rfl rfl hl.1 rfl (lv_room (Nat.le_of_ble_eq_true rfl)) dX1_append_81 ⟨Nat.zero_le _, Nat.zero_le _⟩) hP (gD_va hD rfl) hS [1, 2] rfl (fun _ => rfl) (fun u19 H locs hw hP hS => ?_)
    have hP : va_P (dC, dI) vwCl (aw qa cI u19 ++ bw qb cI b_34) H := hP
    have hf := lt_eq hw hf
    have hok := lt_ok hw hok
    refine lv_aload_n hx hb dX1_append_84 rfl (lv_at hl 2 rfl) ?_
    refine va_get (D := (dC, dI)) (ci := 0) (v := .ref (qa 1)) (C := RX1) (T := TX1) (N := 1) hx hb hts hin1 hown hK hP 0 rfl rfl 0 (by decide) fl14 (fun _ h9 => h9) rfl dX1_append_85 ?_
    refine lv_iload hx hb dX1_append_88 (lv_at hl 0 rfl) ?_
    refine lv_iconst (v := 3) hx hb dX1_append_90 (by decide) ?_
    refine lv_aload_n hx hb dX1_append_91 rfl (lv_at hl 3 rfl) ?_
    refine lv_iload hx hb dX1_append_92 (lv_at hl 6 rfl) ?_
    refine lv_iload hx hb dX1_append_94 (lv_at hl 7 rfl) ?_
    obtain ⟨h20, hok⟩ := hok
    have hPc := hP.sub (ws' := bw qb cI b_34) [3, 4, 5, 6, 7, 8, 9, 10, 11] rfl
    refine gro_i (va_runV (As := [.int v4_34, .int v5_34]) (rest := [.int 3, .int r8, .ref (qa 1)]) ⟨hx, hb, hml, hown, hts⟩ (mX2_strengthBehind l dC dI cI cB cO cL qb b_34 v4_34 v5_34  h20) (cwV 2 hts gX1_append_X2_strengthBehind rfl rfl rfl (by decide +kernel) ⟨Nat.le_of_ble_eq_true rfl, Nat.le_of_ble_eq_true rfl⟩) ⟨cP_blind, va_recv hK hPc (ci := 1) (q0 := 0) rfl rfl, cP_ok hPc hK hE⟩ rfl rfl hl.1 rfl (lv_room (Nat.le_of_ble_eq_true rfl)) dX1_append_96 ⟨Nat.zero_le _, Nat.zero_le _⟩) ?_
    obtain ⟨h21, hok⟩ := hok
    have hPc := hP.sub (ws' := tw (tad (qa 1) (qa 2)) cI 17 6 102 u19) [1, 2] rfl
    refine gmu_v (va_runV (As := [.int r8, .int 3, .int (pX2_strengthBehind b_34 v4_34 v5_34)]) (rest := []) ⟨hx, hb, hml, hown, hts⟩ (mX9_put l dC dI cI cB cO cL (tad (qa 1) (qa 2)) 17 6 102 u19 r8 3 (pX2_strengthBehind b_34 v4_34 v5_34) (gD_subT hD [1, 2] rfl rfl) h21) (cwV 3 hts gX1_append_X9_put rfl rfl rfl (by decide +kernel) ⟨Nat.le_of_ble_eq_true rfl, Nat.le_of_ble_eq_true rfl⟩) ⟨cP_blind, va_recv hK hPc (ci := 6) (q0 := 0) rfl rfl, cP_ok hPc hK hE⟩ rfl rfl hl.1 rfl (lv_room (Nat.le_of_ble_eq_true rfl)) dX1_append_99 ⟨Nat.zero_le _, Nat.zero_le _⟩) hP (gD_va hD rfl) hS [1, 2] rfl (fun _ => rfl) (fun u23 H locs hw hP hS => ?_)
    have hP : va_P (dC, dI) vwCl (aw qa cI u23 ++ bw qb cI b_34) H := hP
    have hf := lt_eq hw hf
    have hok := lt_ok hw hok
    refine lv_aload_n hx hb dX1_append_102 rfl (lv_at hl 2 rfl) ?_
    refine va_get (D := (dC, dI)) (ci := 0) (v := .ref (qa 1)) (C := RX1) (T := TX1) (N := 1) hx hb hts hin1 hown hK hP 0 rfl rfl 0 (by decide) fl14 (fun _ h9 => h9) rfl dX1_append_103 ?_
    refine lv_iload hx hb dX1_append_106 (lv_at hl 0 rfl) ?_
    refine lv_iconst (v := 4) hx hb dX1_append_108 (by decide) ?_
    refine lv_iload_n hx hb dX1_append_109 rfl (lv_at hl 5 rfl) ?_
    obtain ⟨h24, hok⟩ := hok
    have hPc := hP.sub (ws' := tw (tad (qa 1) (qa 2)) cI 17 6 102 u23) [1, 2] rfl
    refine gmu_v (va_runV (As := [.int r8, .int 4, .int v3_34]) (rest := []) ⟨hx, hb, hml, hown, hts⟩ (mX9_put l dC dI cI cB cO cL (tad (qa 1) (qa 2)) 17 6 102 u23 r8 4 v3_34 (gD_subT hD [1, 2] rfl rfl) h24) (cwV 3 hts gX1_append_X9_put rfl rfl rfl (by decide +kernel) ⟨Nat.le_of_ble_eq_true rfl, Nat.le_of_ble_eq_true rfl⟩) ⟨cP_blind, va_recv hK hPc (ci := 6) (q0 := 0) rfl rfl, cP_ok hPc hK hE⟩ rfl rfl hl.1 rfl (lv_room (Nat.le_of_ble_eq_true rfl)) dX1_append_110 ⟨Nat.zero_le _, Nat.zero_le _⟩) hP (gD_va hD rfl) hS [1, 2] rfl (fun _ => rfl) (fun u26 H locs hw hP hS => ?_)
    have hP : va_P (dC, dI) vwCl (aw qa cI u26 ++ bw qb cI b_34) H := hP
    have hf := lt_eq hw hf
    have hok := lt_ok hw hok
    refine lv_aload_n hx hb dX1_append_113 rfl (lv_at hl 2 rfl) ?_
    refine va_get (D := (dC, dI)) (ci := 0) (v := .ref (qa 1)) (C := RX1) (T := TX1) (N := 1) hx hb hts hin1 hown hK hP 0 rfl rfl 0 (by decide) fl14 (fun _ h9 => h9) rfl dX1_append_114 ?_
    refine lv_iload hx hb dX1_append_117 (lv_at hl 0 rfl) ?_
    refine lv_iconst (v := 5) hx hb dX1_append_119 (by decide) ?_
    refine lv_iload hx hb dX1_append_120 (lv_at hl 6 rfl) ?_
    have h27 : kX9_put 17 6 102 u26 r8 5 v4_34 := hok
    have hPc := hP.sub (ws' := tw (tad (qa 1) (qa 2)) cI 17 6 102 u26) [1, 2] rfl
    refine gmu_v (va_runV (As := [.int r8, .int 5, .int v4_34]) (rest := []) ⟨hx, hb, hml, hown, hts⟩ (mX9_put l dC dI cI cB cO cL (tad (qa 1) (qa 2)) 17 6 102 u26 r8 5 v4_34 (gD_subT hD [1, 2] rfl rfl) h27) (cwV 3 hts gX1_append_X9_put rfl rfl rfl (by decide +kernel) ⟨Nat.le_of_ble_eq_true rfl, Nat.le_of_ble_eq_true rfl⟩) ⟨cP_blind, va_recv hK hPc (ci := 6) (q0 := 0) rfl rfl, cP_ok hPc hK hE⟩ rfl rfl hl.1 rfl (lv_room (Nat.le_of_ble_eq_true rfl)) dX1_append_122 ⟨Nat.zero_le _, Nat.zero_le _⟩) hP (gD_va hD rfl) hS [1, 2] rfl (fun _ => rfl) (fun u29 H locs hw hP hS => ?_)
    have hP : va_P (dC, dI) vwCl (aw qa cI u29 ++ bw qb cI b_34) H := hP
    have hf := lt_eq hw hf
    exact e_mv C0 (hf.symm.trans hF) hP hS dX1_append_125
  have J_22 : ∀ (v2_22 : Int32) (v3_22 : Int32) (v4_22 : Int32) (v5_22 : Int32) (t0_22 : Bool) (t_22 : TS) (b_22 : BS) (H : Heap) (locs : List Loc), va_P (dC, dI) vwCl (aw qa cI t_22 ++ bw qb cI b_22) H → va_S (wA (aw qa cI t ++ bw qb cI b)) s.heap H locs → ∀ ls : Array Slot, lv_has ls 8 [(0, .ref (qa 0)), (1, .ref (qb 0)), (2, .int v2_22), (3, .int v3_22), (4, .int v4_22), (5, .int v5_22)] → F = pX1_append_L22 v2_22 v3_22 v4_22 v5_22 t0_22 t_22 b_22 → kX1_append_L22 v2_22 v3_22 v4_22 v5_22 t0_22 t_22 b_22 → W p l e rX1_append s mi ([.ref (qa 0), .ref (qb 0), .int a2, .int a3, .int a4] : List Value).toArray below meth c H locs 0 0 (MQ below (gQv (dC, dI) (fun z9 : TS × BS => aw qa cI z9.1 ++ bw qb cI z9.2) (wA (aw qa cI t ++ bw qb cI b)) (pX1_append t b a2 a3 a4)) ([.ref (qa 0), .ref (qb 0), .int a2, .int a3, .int a4] : List Value).toArray s 0 0 (wA (aw qa cI t ++ bw qb cI b))) (F0 mi 22 ls [.int (bz t0_22)]) := by
    intro v2_22 v3_22 v4_22 v5_22 t0_22 t_22 b_22 H locs hP hS ls hl hf hok
    refine lv_iload hx hb dX1_append_22 (lv_at hl 4 rfl) ?_
    refine lv_ldc (v := (-1000000000)) hx hb hown cn34 dX1_append_24 ?_
    refine lv_icmp_ne (tgt := 33) hx hb dX1_append_26 (by decide) (fun c5 => ?_) (fun c5 => ?_)
    · have hf := ie_eq c5 hf
      have hok := ie_ok c5 hok
      refine lv_iconst (v := 1) hx hb dX1_append_33 (by decide) ?_
      exact J_34 v2_22 v3_22 v4_22 v5_22 t0_22 true t_22 b_22 _ _ hP hS _ (lv_sub hl [0, 1, 2, 3, 4, 5] rfl) hf hok
    · have hf := it_eq c5 hf
      have hok := it_ok c5 hok
      refine lv_iconst (v := 0) hx hb dX1_append_29 (by decide) ?_
      refine lv_goto (tgt := 34) hx hb dX1_append_30 (by decide) ?_
      exact J_34 v2_22 v3_22 v4_22 v5_22 t0_22 false t_22 b_22 _ _ hP hS _ (lv_sub hl [0, 1, 2, 3, 4, 5] rfl) hf hok
  refine lv_aload_n hx hb dX1_append_0 rfl (lv_at hl 1 rfl) ?_
  refine lv_iload_n hx hb dX1_append_1 rfl (lv_at hl 3 rfl) ?_
  refine lv_iload_n hx hb dX1_append_2 rfl (lv_at hl 2 rfl) ?_
  obtain ⟨h1, hok⟩ := hok
  refine gro_i (va_runS (As := [.int a2]) (rest := [.int a3, .ref (qb 0)]) ⟨hx, hb, hml, hown, hts⟩ (mX7_strength l dC dI cI cB cO cL  a2  h1) (va_cwS 1 hts gX1_append_X7_strength rfl rfl rfl (by decide +kernel) ⟨Nat.le_of_ble_eq_true rfl, Nat.le_of_ble_eq_true rfl⟩) ⟨cP_blind, cP_ok va_P_nil hK hE⟩ rfl rfl hl.1 rfl (lv_room (Nat.le_of_ble_eq_true rfl)) dX1_append_3 ⟨Nat.zero_le _, Nat.zero_le _⟩) ?_
  obtain ⟨h2, hok⟩ := hok
  have hPc := hP.sub (ws' := bw qb cI b) [3, 4, 5, 6, 7, 8, 9, 10, 11] rfl
  refine gro_i (va_runV (As := [.int a3, .int (pX7_strength a2)]) (rest := []) ⟨hx, hb, hml, hown, hts⟩ (mX2_strengthBehind l dC dI cI cB cO cL qb b a3 (pX7_strength a2)  h2) (cwV 2 hts gX1_append_X2_strengthBehind rfl rfl rfl (by decide +kernel) ⟨Nat.le_of_ble_eq_true rfl, Nat.le_of_ble_eq_true rfl⟩) ⟨cP_blind, va_recv hK hPc (ci := 1) (q0 := 0) rfl rfl, cP_ok hPc hK hE⟩ rfl rfl hl.1 rfl (lv_room (Nat.le_of_ble_eq_true rfl)) dX1_append_6 ⟨Nat.zero_le _, Nat.zero_le _⟩) ?_
  refine lv_topi (fun x3 ex3 => ?_)
  have hf := lt_eq ex3 hf
  have hok := lt_ok ex3 hok
  refine lv_istore (lv' := [(5, .int x3), (0, .ref (qa 0)), (1, .ref (qb 0)), (2, .int a2), (3, .int a3), (4, .int a4)]) hx hb dX1_append_9 hl (by decide) rfl (fun ls hl => ?_)
  refine lv_iload_n hx hb dX1_append_11 rfl (lv_at hl 4 rfl) ?_
  refine lv_ldc (v := (-1000000000)) hx hb hown cn34 dX1_append_12 ?_
  refine lv_icmp_ne (tgt := 21) hx hb dX1_append_14 (by decide) (fun c4 => ?_) (fun c4 => ?_)
  · have hf := ie_eq c4 hf
    have hok := ie_ok c4 hok
    refine lv_iconst (v := 1) hx hb dX1_append_21 (by decide) ?_
    exact J_22 a2 a3 a4 x3 true t b _ _ hP hS _ (lv_sub hl [1, 2, 3, 4, 5, 0] rfl) hf hok
  · have hf := it_eq c4 hf
    have hok := it_ok c4 hok
    refine lv_iconst (v := 0) hx hb dX1_append_17 (by decide) ?_
    refine lv_goto (tgt := 22) hx hb dX1_append_18 (by decide) ?_
    exact J_22 a2 a3 a4 x3 false t b _ _ hP hS _ (lv_sub hl [1, 2, 3, 4, 5, 0] rfl) hf hok
