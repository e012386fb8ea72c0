noncomputable def pX12_done (m : MS) (a1 : Int32) : Int32 × MS := if a1 ≤ 0 then (bd (pX12_ends m (m.1 5)) fun (r3 : Int32) (u4 : MS) => (r3, u4)) else (bd (pX12_fails m (a1 - 1)) fun (r5 : Int32) (u6 : MS) => (r5, u6))
def kX12_done (m : MS) (a1 : Int32) : Prop := if a1 ≤ 0 then (kX12_ends m (m.1 5)) else (True)
abbrev rX12_done : Room := { frames := 2, cells := 0, slots := 0, locals := 43 }
set_option maxHeartbeats 4000000 in
set_option maxRecDepth 100000 in
theorem mX12_done (l : Launch) (dC : Nat → ClassId) (dI : Nat → Nat → Nat) (cI cB cO cL : ClassId) (q : Nat → Nat) (m : MS) (a1 : Int32) (hI : gD (fun _ => True) (mAd q)) (hok : kX12_done m a1) : Met l yX12_done wsX12_done rX12_done (gP (dC, dI) (tYS cI cB cO cL) (mw q cI m) [.ref (q 0), .int a1]) (gQi (dC, dI) (fun m9 => mw q cI m9) (wA (mw q cI m)) (pX12_done m a1)) 0 0 (wA (mw q cI m)) := by
  refine gMet (cc := cX12_done) (maxL := 2) (ret := some .int) [(0, .ref (q 0)), (1, .int a1)] (by decide) rfl rfl rfl ?_
  intro p e s mi below meth c C0 hK hP ls hl
  obtain ⟨hx, hb, hr, hml, hown, hts, hlocks⟩ := id C0
  have hown : s.vm.findClass RX12 = some mi.cls := hown
  have hS : va_S (wA (mw q cI m)) s.heap s.heap [] := va_S.rf
  have hD : gD (wA (mw q cI m)) (mAd q) := gD_wA (ws := mw q cI m) hI
  have hP : va_P (dC, dI) vwCl (mw q cI m) s.heap := hP
  obtain ⟨F, hF⟩ : ∃ F, F = pX12_done m a1 := ⟨_, rfl⟩
  have hf := hF
  have hin12 : ∀ w ∈ u_ws RX12 TX12 23, w ∈ wsX12_done := by decide +kernel
  have fl119 := hts (.fieldLink RX12 119 "ClickBenchModel" "answer" "I") (by decide +kernel)
  refine lv_iload_n hx hb dX12_done_0 rfl (lv_at hl 1 rfl) ?_
  refine lv_if_le (tgt := 14) hx hb dX12_done_1 (by decide) (fun c1 => ?_) (fun c1 => ?_)
  · have hf := it_eq c1 hf
    have hok := it_ok c1 hok
    refine lv_aload_n hx hb dX12_done_14 rfl (lv_at hl 0 rfl) ?_
    refine lv_aload_n hx hb dX12_done_15 rfl (lv_at hl 0 rfl) ?_
    refine va_get (D := (dC, dI)) (ci := 9) (v := .int (m.1 5)) (C := RX12) (T := TX12) (N := 23) hx hb hts hin12 hown hK hP 0 rfl rfl 14 (by decide) fl119 (fun _ h9 => h9) rfl dX12_done_16 ?_
    have h2 : kX12_ends m (m.1 5) := hok
    refine gms_i (va_runV (As := [.int (m.1 5)]) (rest := []) ⟨hx, hb, hml, hown, hts⟩ (mX12_ends l dC dI cI cB cO cL q m (m.1 5) (gD_any hD) h2) (cwV 1 hts gX12_done_X12_ends rfl rfl rfl (by decide +kernel) ⟨Nat.le_of_ble_eq_true rfl, Nat.le_of_ble_eq_true rfl⟩) ⟨gP_blind, va_recv hK hP (ci := 9) (q0 := 0) rfl rfl, gP_ok hP hK⟩ rfl rfl hl.1 rfl (lv_room (Nat.le_of_ble_eq_true rfl)) dX12_done_19 ⟨Nat.zero_le _, Nat.zero_le _⟩) hP (gD_va hD rfl) hS (fun r3 u4 H locs hw hP hS => ?_)
    have hP : va_P (dC, dI) vwCl (mw q cI u4) H := hP
    have hf := bd_eq hw hf
    exact e_mi C0 (hf.symm.trans hF) hP hS dX12_done_22
  · have hf := ie_eq c1 hf
    refine lv_aload_n hx hb dX12_done_4 rfl (lv_at hl 0 rfl) ?_
    refine lv_iload_n hx hb dX12_done_5 rfl (lv_at hl 1 rfl) ?_
    refine lv_iconst (v := 1) hx hb dX12_done_6 (by decide) ?_
    refine lv_isub hx hb dX12_done_7 ?_
    refine gms_i (va_runV (As := [.int (a1 - 1)]) (rest := []) ⟨hx, hb, hml, hown, hts⟩ (mX12_fails l dC dI cI cB cO cL q m (a1 - 1) (gD_any hD) ) (cwV 1 hts gX12_done_X12_fails rfl rfl rfl (by decide +kernel) ⟨Nat.le_of_ble_eq_true rfl, Nat.le_of_ble_eq_true rfl⟩) ⟨gP_blind, va_recv hK hP (ci := 9) (q0 := 0) rfl rfl, gP_ok hP hK⟩ rfl rfl hl.1 rfl (lv_room (Nat.le_of_ble_eq_true rfl)) dX12_done_8 ⟨Nat.zero_le _, Nat.zero_le _⟩) hP (gD_va hD rfl) hS (fun r5 u6 H locs hw hP hS => ?_)
    have hP : va_P (dC, dI) vwCl (mw q cI u6) H := hP
    have hf := bd_eq hw hf
    refine lv_goto (tgt := 22) hx hb dX12_done_11 (by decide) ?_
    exact e_mi C0 (hf.symm.trans hF) hP hS dX12_done_22
noncomputable def pX12_begin (m : MS) (a1 : Int32) (a2 : Int32) : Int32 × MS := lt (pX12_hold m) fun (u3 : MS) => bd (pX12_begins u3 a1 a2) fun (r5 : Int32) (u6 : MS) => bd (pX12_done u6 r5) fun (r8 : Int32) (u9 : MS) => (r8, u9)
def kX12_begin (m : MS) (a1 : Int32) (a2 : Int32) : Prop := (kX12_hold m) ∧ (lt (pX12_hold m) fun (u3 : MS) => (kX12_begins u3 a1 a2) ∧ (bd (pX12_begins u3 a1 a2) fun (r5 : Int32) (u6 : MS) => kX12_done u6 r5))
abbrev rX12_begin : Room := { frames := 3, cells := 0, slots := 0, locals := 64 }
set_option maxHeartbeats 4000000 in
set_option maxRecDepth 100000 in
theorem mX12_begin (l : Launch) (dC : Nat → ClassId) (dI : Nat → Nat → Nat) (cI cB cO cL : ClassId) (q : Nat → Nat) (m : MS) (a1 : Int32) (a2 : Int32) (hI : gD (fun _ => True) (mAd q)) (hok : kX12_begin m a1 a2) : Met l yX12_begin wsX12_begin rX12_begin (gP (dC, dI) (tYS cI cB cO cL) (mw q cI m) [.ref (q 0), .int a1, .int a2]) (gQi (dC, dI) (fun m9 => mw q cI m9) (wA (mw q cI m)) (pX12_begin m a1 a2)) 0 0 (wA (mw q cI m)) := by
  refine gMet (cc := cX12_begin) (maxL := 3) (ret := some .int) [(0, .ref (q 0)), (1, .int a1), (2, .int a2)] (by decide) rfl rfl rfl ?_
  intro p e s mi below meth c C0 hK hP ls hl
  obtain ⟨hx, hb, hr, hml, hown, hts, hlocks⟩ := id C0
  have hown : s.vm.findClass RX12 = some mi.cls := hown
  have hS : va_S (wA (mw q cI m)) s.heap s.heap [] := va_S.rf
  have hD : gD (wA (mw q cI m)) (mAd q) := gD_wA (ws := mw q cI m) hI
  have hP : va_P (dC, dI) vwCl (mw q cI m) s.heap := hP
  obtain ⟨F, hF⟩ : ∃ F, F = pX12_begin m a1 a2 := ⟨_, rfl⟩
  have hf := hF
  refine lv_aload_n hx hb dX12_begin_0 rfl (lv_at hl 0 rfl) ?_
  obtain ⟨h1, hok⟩ := hok
  refine gms_v (va_runV (As := []) (rest := []) ⟨hx, hb, hml, hown, hts⟩ (mX12_hold l dC dI cI cB cO cL q m (gD_any hD) h1) (cwV 0 hts gX12_begin_X12_hold rfl rfl rfl (by decide +kernel) ⟨Nat.le_of_ble_eq_true rfl, Nat.le_of_ble_eq_true rfl⟩) ⟨gP_blind, va_recv hK hP (ci := 9) (q0 := 0) rfl rfl, gP_ok hP hK⟩ rfl rfl hl.1 rfl (lv_room (Nat.le_of_ble_eq_true rfl)) dX12_begin_1 ⟨Nat.zero_le _, Nat.zero_le _⟩) hP (gD_va hD rfl) hS (fun u3 H locs hw hP hS => ?_)
  have hP : va_P (dC, dI) vwCl (mw q cI u3) H := hP
  have hf := lt_eq hw hf
  have hok := lt_ok hw hok
  refine lv_aload_n hx hb dX12_begin_4 rfl (lv_at hl 0 rfl) ?_
  refine lv_aload_n hx hb dX12_begin_5 rfl (lv_at hl 0 rfl) ?_
  refine lv_iload_n hx hb dX12_begin_6 rfl (lv_at hl 1 rfl) ?_
  refine lv_iload_n hx hb dX12_begin_7 rfl (lv_at hl 2 rfl) ?_
  obtain ⟨h4, hok⟩ := hok
  refine gms_i (va_runV (As := [.int a1, .int a2]) (rest := [.ref (q 0)]) ⟨hx, hb, hml, hown, hts⟩ (mX12_begins l dC dI cI cB cO cL q u3 a1 a2 (gD_any hD) h4) (cwV 2 hts gX12_begin_X12_begins rfl rfl rfl (by decide +kernel) ⟨Nat.le_of_ble_eq_true rfl, Nat.le_of_ble_eq_true rfl⟩) ⟨gP_blind, va_recv hK hP (ci := 9) (q0 := 0) rfl rfl, gP_ok hP hK⟩ rfl rfl hl.1 rfl (lv_room (Nat.le_of_ble_eq_true rfl)) dX12_begin_8 ⟨Nat.zero_le _, Nat.zero_le _⟩) hP (gD_va hD rfl) hS (fun r5 u6 H locs hw hP hS => ?_)
  have hP : va_P (dC, dI) vwCl (mw q cI u6) H := hP
  have hf := bd_eq hw hf
  have hok := bd_ok hw hok
  have h7 : kX12_done u6 r5 := hok
  refine gms_i (va_runV (As := [.int r5]) (rest := []) ⟨hx, hb, hml, hown, hts⟩ (mX12_done l dC dI cI cB cO cL q u6 r5 (gD_any hD) h7) (cwV 1 hts gX12_begin_X12_done rfl rfl rfl (by decide +kernel) ⟨Nat.le_of_ble_eq_true rfl, Nat.le_of_ble_eq_true rfl⟩) ⟨gP_blind, va_recv hK hP (ci := 9) (q0 := 0) rfl rfl, gP_ok hP hK⟩ rfl rfl hl.1 rfl (lv_room (Nat.le_of_ble_eq_true rfl)) dX12_begin_11 ⟨Nat.zero_le _, Nat.zero_le _⟩) hP (gD_va hD rfl) hS (fun r8 u9 H locs hw hP hS => ?_)
  have hP : va_P (dC, dI) vwCl (mw q cI u9) H := hP
  have hf := bd_eq hw hf
  exact e_mi C0 (hf.symm.trans hF) hP hS dX12_begin_14
noncomputable def pX12_addMicrophone (m : MS) (a1 : Int32) (a2 : Int32) : Int32 × MS := lt (pX12_hold m) fun (u3 : MS) => bd (pX12_comes u3 a1 a2) fun (r5 : Int32) (u6 : MS) => bd (pX12_done u6 r5) fun (r8 : Int32) (u9 : MS) => (r8, u9)
def kX12_addMicrophone (m : MS) (a1 : Int32) (a2 : Int32) : Prop := (kX12_hold m) ∧ (lt (pX12_hold m) fun (u3 : MS) => (kX12_comes u3 a1 a2) ∧ (bd (pX12_comes u3 a1 a2) fun (r5 : Int32) (u6 : MS) => kX12_done u6 r5))
abbrev rX12_addMicrophone : Room := { frames := 3, cells := 0, slots := 0, locals := 64 }
set_option maxHeartbeats 4000000 in
set_option maxRecDepth 100000 in
theorem mX12_addMicrophone (l : Launch) (dC : Nat → ClassId) (dI : Nat → Nat → Nat) (cI cB cO cL : ClassId) (q : Nat → Nat) (m : MS) (a1 : Int32) (a2 : Int32) (hI : gD (fun _ => True) (mAd q)) (hok : kX12_addMicrophone m a1 a2) : Met l yX12_addMicrophone wsX12_addMicrophone rX12_addMicrophone (gP (dC, dI) (tYS cI cB cO cL) (mw q cI m) [.ref (q 0), .int a1, .int a2]) (gQi (dC, dI) (fun m9 => mw q cI m9) (wA (mw q cI m)) (pX12_addMicrophone m a1 a2)) 0 0 (wA (mw q cI m)) := by
  refine gMet (cc := cX12_addMicrophone) (maxL := 3) (ret := some .int) [(0, .ref (q 0)), (1, .int a1), (2, .int a2)] (by decide) rfl rfl rfl ?_
  intro p e s mi below meth c C0 hK hP ls hl
  obtain ⟨hx, hb, hr, hml, hown, hts, hlocks⟩ := id C0
  have hown : s.vm.findClass RX12 = some mi.cls := hown
  have hS : va_S (wA (mw q cI m)) s.heap s.heap [] := va_S.rf
  have hD : gD (wA (mw q cI m)) (mAd q) := gD_wA (ws := mw q cI m) hI
  have hP : va_P (dC, dI) vwCl (mw q cI m) s.heap := hP
  obtain ⟨F, hF⟩ : ∃ F, F = pX12_addMicrophone m a1 a2 := ⟨_, rfl⟩
  have hf := hF
  refine lv_aload_n hx hb dX12_addMicrophone_0 rfl (lv_at hl 0 rfl) ?_
  obtain ⟨h1, hok⟩ := hok
  refine gms_v (va_runV (As := []) (rest := []) ⟨hx, hb, hml, hown, hts⟩ (mX12_hold l dC dI cI cB cO cL q m (gD_any hD) h1) (cwV 0 hts gX12_addMicrophone_X12_hold rfl rfl rfl (by decide +kernel) ⟨Nat.le_of_ble_eq_true rfl, Nat.le_of_ble_eq_true rfl⟩) ⟨gP_blind, va_recv hK hP (ci := 9) (q0 := 0) rfl rfl, gP_ok hP hK⟩ rfl rfl hl.1 rfl (lv_room (Nat.le_of_ble_eq_true rfl)) dX12_addMicrophone_1 ⟨Nat.zero_le _, Nat.zero_le _⟩) hP (gD_va hD rfl) hS (fun u3 H locs hw hP hS => ?_)
  have hP : va_P (dC, dI) vwCl (mw q cI u3) H := hP
  have hf := lt_eq hw hf
  have hok := lt_ok hw hok
  refine lv_aload_n hx hb dX12_addMicrophone_4 rfl (lv_at hl 0 rfl) ?_
  refine lv_aload_n hx hb dX12_addMicrophone_5 rfl (lv_at hl 0 rfl) ?_
  refine lv_iload_n hx hb dX12_addMicrophone_6 rfl (lv_at hl 1 rfl) ?_
  refine lv_iload_n hx hb dX12_addMicrophone_7 rfl (lv_at hl 2 rfl) ?_
  obtain ⟨h4, hok⟩ := hok
  refine gms_i (va_runV (As := [.int a1, .int a2]) (rest := [.ref (q 0)]) ⟨hx, hb, hml, hown, hts⟩ (mX12_comes l dC dI cI cB cO cL q u3 a1 a2 (gD_any hD) h4) (cwV 2 hts gX12_addMicrophone_X12_comes rfl rfl rfl (by decide +kernel) ⟨Nat.le_of_ble_eq_true rfl, Nat.le_of_ble_eq_true rfl⟩) ⟨gP_blind, va_recv hK hP (ci := 9) (q0 := 0) rfl rfl, gP_ok hP hK⟩ rfl rfl hl.1 rfl (lv_room (Nat.le_of_ble_eq_true rfl)) dX12_addMicrophone_8 ⟨Nat.zero_le _, Nat.zero_le _⟩) hP (gD_va hD rfl) hS (fun r5 u6 H locs hw hP hS => ?_)
  have hP : va_P (dC, dI) vwCl (mw q cI u6) H := hP
  have hf := bd_eq hw hf
  have hok := bd_ok hw hok
  have h7 : kX12_done u6 r5 := hok
  refine gms_i (va_runV (As := [.int r5]) (rest := []) ⟨hx, hb, hml, hown, hts⟩ (mX12_done l dC dI cI cB cO cL q u6 r5 (gD_any hD) h7) (cwV 1 hts gX12_addMicrophone_X12_done rfl rfl rfl (by decide +kernel) ⟨Nat.le_of_ble_eq_true rfl, Nat.le_of_ble_eq_true rfl⟩) ⟨gP_blind, va_recv hK hP (ci := 9) (q0 := 0) rfl rfl, gP_ok hP hK⟩ rfl rfl hl.1 rfl (lv_room (Nat.le_of_ble_eq_true rfl)) dX12_addMicrophone_11 ⟨Nat.zero_le _, Nat.zero_le _⟩) hP (gD_va hD rfl) hS (fun r8 u9 H locs hw hP hS => ?_)
  have hP : va_P (dC, dI) vwCl (mw q cI u9) H := hP
  have hf := bd_eq hw hf
  exact e_mi C0 (hf.symm.trans hF) hP hS dX12_addMicrophone_14
noncomputable def pX12_setClock (m : MS) (a1 : Int32) (a2 : Int32) : Int32 × MS := if (pX12_isMicrophone m a1) = true then (if (pX12_in a2 (-500) 500) = true then (lt (pX12_hold m) fun (u5 : MS) => lt (pX12_of u5 a1 2) fun (x7 : Int32) => lt (pX12_puts u5 a1 2 a2) fun (u10 : MS) => bd (pX12_ends u10 x7) fun (r12 : Int32) (u13 : MS) => (r12, u13)) else (bd (pX12_fails m 2) fun (r14 : Int32) (u15 : MS) => (r14, u15))) else (bd (pX12_fails m 1) fun (r16 : Int32) (u17 : MS) => (r16, u17))
def kX12_setClock (m : MS) (a1 : Int32) (a2 : Int32) : Prop := if (pX12_isMicrophone m a1) = true then (if (pX12_in a2 (-500) 500) = true then ((kX12_hold m) ∧ (lt (pX12_hold m) fun (u5 : MS) => (kX12_of u5 a1 2) ∧ (lt (pX12_of u5 a1 2) fun (x7 : Int32) => (kX12_puts u5 a1 2 a2) ∧ (lt (pX12_puts u5 a1 2 a2) fun (u10 : MS) => kX12_ends u10 x7)))) else (True)) else (True)
abbrev rX12_setClock : Room := { frames := 2, cells := 0, slots := 0, locals := 43 }
set_option maxHeartbeats 4000000 in
set_option maxRecDepth 100000 in
theorem mX12_setClock (l : Launch) (dC : Nat → ClassId) (dI : Nat → Nat → Nat) (cI cB cO cL : ClassId) (q : Nat → Nat) (m : MS) (a1 : Int32) (a2 : Int32) (hI : gD (fun _ => True) (mAd q)) (hok : kX12_setClock m a1 a2) : Met l yX12_setClock wsX12_setClock rX12_setClock (gP (dC, dI) (tYS cI cB cO cL) (mw q cI m) [.ref (q 0), .int a1, .int a2]) (gQi (dC, dI) (fun m9 => mw q cI m9) (wA (mw q cI m)) (pX12_setClock m a1 a2)) 0 0 (wA (mw q cI m)) := by
  refine gMet (cc := cX12_setClock) (maxL := 4) (ret := some .int) [(0, .ref (q 0)), (1, .int a1), (2, .int a2)] (by decide) rfl rfl rfl ?_
  intro p e s mi below meth c C0 hK hP ls hl
  obtain ⟨hx, hb, hr, hml, hown, hts, hlocks⟩ := id C0
  have hown : s.vm.findClass RX12 = some mi.cls := hown
  have hS : va_S (wA (mw q cI m)) s.heap s.heap [] := va_S.rf
  have hD : gD (wA (mw q cI m)) (mAd q) := gD_wA (ws := mw q cI m) hI
  have hP : va_P (dC, dI) vwCl (mw q cI m) s.heap := hP
  obtain ⟨F, hF⟩ : ∃ F, F = pX12_setClock m a1 a2 := ⟨_, rfl⟩
  have hf := hF
  refine lv_aload_n hx hb dX12_setClock_0 rfl (lv_at hl 0 rfl) ?_
  refine lv_iload_n hx hb dX12_setClock_1 rfl (lv_at hl 1 rfl) ?_
  refine gro_i (va_runV (As := [.int a1]) (rest := []) ⟨hx, hb, hml, hown, hts⟩ (mX12_isMicrophone l dC dI cI cB cO cL q m a1  ) (cwV 1 hts gX12_setClock_X12_isMicrophone rfl rfl rfl (by decide +kernel) ⟨Nat.le_of_ble_eq_true rfl, Nat.le_of_ble_eq_true rfl⟩) ⟨gP_blind, va_recv hK hP (ci := 9) (q0 := 0) rfl rfl, gP_ok hP hK⟩ rfl rfl hl.1 rfl (lv_room (Nat.le_of_ble_eq_true rfl)) dX12_setClock_2 ⟨Nat.zero_le _, Nat.zero_le _⟩) ?_
  refine lv_if_ne (tgt := 14) hx hb dX12_setClock_5 (by decide) (fun c1 => ?_) (fun c1 => ?_)
  · have c1 := bz_t c1
    have hf := it_eq c1 hf
    have hok := it_ok c1 hok
    refine lv_iload_n hx hb dX12_setClock_14 rfl (lv_at hl 2 rfl) ?_
    refine lv_sipush (v := (-500)) hx hb dX12_setClock_15 (by decide) ?_
    refine lv_sipush (v := 500) hx hb dX12_setClock_18 (by decide) ?_
    refine gro_i (va_runS (As := [.int a2, .int (-500), .int 500]) (rest := []) ⟨hx, hb, hml, hown, hts⟩ (mX12_in l dC dI cI cB cO cL  a2 (-500) 500  ) (va_cwS 3 hts gX12_setClock_X12_in rfl rfl rfl (by decide +kernel) ⟨Nat.le_of_ble_eq_true rfl, Nat.le_of_ble_eq_true rfl⟩) ⟨gP_blind, gP_ok va_P_nil hK⟩ rfl rfl hl.1 rfl (lv_room (Nat.le_of_ble_eq_true rfl)) dX12_setClock_21 ⟨Nat.zero_le _, Nat.zero_le _⟩) ?_
    refine lv_if_ne (tgt := 33) hx hb dX12_setClock_24 (by decide) (fun c2 => ?_) (fun c2 => ?_)
    · have c2 := bz_t c2
      have hf := it_eq c2 hf
      have hok := it_ok c2 hok
      refine lv_aload_n hx hb dX12_setClock_33 rfl (lv_at hl 0 rfl) ?_
      obtain ⟨h3, hok⟩ := hok
      refine gms_v (va_runV (As := []) (rest := []) ⟨hx, hb, hml, hown, hts⟩ (mX12_hold l dC dI cI cB cO cL q m (gD_any hD) h3) (cwV 0 hts gX12_setClock_X12_hold rfl rfl rfl (by decide +kernel) ⟨Nat.le_of_ble_eq_true rfl, Nat.le_of_ble_eq_true rfl⟩) ⟨gP_blind, va_recv hK hP (ci := 9) (q0 := 0) rfl rfl, gP_ok hP hK⟩ rfl rfl hl.1 rfl (lv_room (Nat.le_of_ble_eq_true rfl)) dX12_setClock_34 ⟨Nat.zero_le _, Nat.zero_le _⟩) hP (gD_va hD rfl) hS (fun u5 H locs hw hP hS => ?_)
      have hP : va_P (dC, dI) vwCl (mw q cI u5) H := hP
      have hf := lt_eq hw hf
      have hok := lt_ok hw hok
      refine lv_aload_n hx hb dX12_setClock_37 rfl (lv_at hl 0 rfl) ?_
      refine lv_iload_n hx hb dX12_setClock_38 rfl (lv_at hl 1 rfl) ?_
      refine lv_iconst (v := 2) hx hb dX12_setClock_39 (by decide) ?_
      obtain ⟨h6, hok⟩ := hok
      refine gro_i (va_runV (As := [.int a1, .int 2]) (rest := []) ⟨hx, hb, hml, hown, hts⟩ (mX12_of l dC dI cI cB cO cL q u5 a1 2  h6) (cwV 2 hts gX12_setClock_X12_of rfl rfl rfl (by decide +kernel) ⟨Nat.le_of_ble_eq_true rfl, Nat.le_of_ble_eq_true rfl⟩) ⟨gP_blind, va_recv hK hP (ci := 9) (q0 := 0) rfl rfl, gP_ok hP hK⟩ rfl rfl hl.1 rfl (lv_room (Nat.le_of_ble_eq_true rfl)) dX12_setClock_40 ⟨Nat.zero_le _, Nat.zero_le _⟩) ?_
      refine lv_topi (fun x7 ex7 => ?_)
      have hf := lt_eq ex7 hf
      have hok := lt_ok ex7 hok
      refine lv_istore_n (lv' := [(3, .int x7), (0, .ref (q 0)), (1, .int a1), (2, .int a2)]) hx hb dX12_setClock_43 rfl hl (by decide) rfl (fun ls hl => ?_)
      refine lv_aload_n hx hb dX12_setClock_44 rfl (lv_at hl 1 rfl) ?_
      refine lv_iload_n hx hb dX12_setClock_45 rfl (lv_at hl 2 rfl) ?_
      refine lv_iconst (v := 2) hx hb dX12_setClock_46 (by decide) ?_
      refine lv_iload_n hx hb dX12_setClock_47 rfl (lv_at hl 3 rfl) ?_
      obtain ⟨h8, hok⟩ := hok
      refine gms_v (va_runV (As := [.int a1, .int 2, .int a2]) (rest := []) ⟨hx, hb, hml, hown, hts⟩ (mX12_puts l dC dI cI cB cO cL q u5 a1 2 a2 (gD_any hD) h8) (cwV 3 hts gX12_setClock_X12_puts rfl rfl rfl (by decide +kernel) ⟨Nat.le_of_ble_eq_true rfl, Nat.le_of_ble_eq_true rfl⟩) ⟨gP_blind, va_recv hK hP (ci := 9) (q0 := 0) rfl rfl, gP_ok hP hK⟩ rfl rfl hl.1 rfl (lv_room (Nat.le_of_ble_eq_true rfl)) dX12_setClock_48 ⟨Nat.zero_le _, Nat.zero_le _⟩) hP (gD_va hD rfl) hS (fun u10 H locs hw hP hS => ?_)
      have hP : va_P (dC, dI) vwCl (mw q cI u10) H := hP
      have hf := lt_eq hw hf
      have hok := lt_ok hw hok
      refine lv_aload_n hx hb dX12_setClock_51 rfl (lv_at hl 1 rfl) ?_
      refine lv_iload_n hx hb dX12_setClock_52 rfl (lv_at hl 0 rfl) ?_
      have h11 : kX12_ends u10 x7 := hok
      refine gms_i (va_runV (As := [.int x7]) (rest := []) ⟨hx, hb, hml, hown, hts⟩ (mX12_ends l dC dI cI cB cO cL q u10 x7 (gD_any hD) h11) (cwV 1 hts gX12_setClock_X12_ends rfl rfl rfl (by decide +kernel) ⟨Nat.le_of_ble_eq_true rfl, Nat.le_of_ble_eq_true rfl⟩) ⟨gP_blind, va_recv hK hP (ci := 9) (q0 := 0) rfl rfl, gP_ok hP hK⟩ rfl rfl hl.1 rfl (lv_room (Nat.le_of_ble_eq_true rfl)) dX12_setClock_53 ⟨Nat.zero_le _, Nat.zero_le _⟩) hP (gD_va hD rfl) hS (fun r12 u13 H locs hw hP hS => ?_)
      have hP : va_P (dC, dI) vwCl (mw q cI u13) H := hP
      have hf := bd_eq hw hf
      exact e_mi C0 (hf.symm.trans hF) hP hS dX12_setClock_56
    · have c2 := bz_f c2
      have hf := ie_eq c2 hf
      refine lv_aload_n hx hb dX12_setClock_27 rfl (lv_at hl 0 rfl) ?_
      refine lv_iconst (v := 2) hx hb dX12_setClock_28 (by decide) ?_
      refine gms_i (va_runV (As := [.int 2]) (rest := []) ⟨hx, hb, hml, hown, hts⟩ (mX12_fails l dC dI cI cB cO cL q m 2 (gD_any hD) ) (cwV 1 hts gX12_setClock_X12_fails rfl rfl rfl (by decide +kernel) ⟨Nat.le_of_ble_eq_true rfl, Nat.le_of_ble_eq_true rfl⟩) ⟨gP_blind, va_recv hK hP (ci := 9) (q0 := 0) rfl rfl, gP_ok hP hK⟩ rfl rfl hl.1 rfl (lv_room (Nat.le_of_ble_eq_true rfl)) dX12_setClock_29 ⟨Nat.zero_le _, Nat.zero_le _⟩) hP (gD_va hD rfl) hS (fun r14 u15 H locs hw hP hS => ?_)
      have hP : va_P (dC, dI) vwCl (mw q cI u15) H := hP
      have hf := bd_eq hw hf
      exact e_mi C0 (hf.symm.trans hF) hP hS dX12_setClock_32
  · have c1 := bz_f c1
    have hf := ie_eq c1 hf
    refine lv_aload_n hx hb dX12_setClock_8 rfl (lv_at hl 0 rfl) ?_
    refine lv_iconst (v := 1) hx hb dX12_setClock_9 (by decide) ?_
    refine gms_i (va_runV (As := [.int 1]) (rest := []) ⟨hx, hb, hml, hown, hts⟩ (mX12_fails l dC dI cI cB cO cL q m 1 (gD_any hD) ) (cwV 1 hts gX12_setClock_X12_fails rfl rfl rfl (by decide +kernel) ⟨Nat.le_of_ble_eq_true rfl, Nat.le_of_ble_eq_true rfl⟩) ⟨gP_blind, va_recv hK hP (ci := 9) (q0 := 0) rfl rfl, gP_ok hP hK⟩ rfl rfl hl.1 rfl (lv_room (Nat.le_of_ble_eq_true rfl)) dX12_setClock_10 ⟨Nat.zero_le _, Nat.zero_le _⟩) hP (gD_va hD rfl) hS (fun r16 u17 H locs hw hP hS => ?_)
    have hP : va_P (dC, dI) vwCl (mw q cI u17) H := hP
    have hf := bd_eq hw hf
    exact e_mi C0 (hf.symm.trans hF) hP hS dX12_setClock_13
noncomputable def pX12_addWall (m : MS) (a1 : Int32) (a2 : Int32) (a3 : Int32) : Int32 × MS := lt (pX12_hold m) fun (u3 : MS) => bd (pX12_walls u3 a1 a2 a3) fun (r5 : Int32) (u6 : MS) => bd (pX12_done u6 r5) fun (r8 : Int32) (u9 : MS) => (r8, u9)
def kX12_addWall (m : MS) (a1 : Int32) (a2 : Int32) (a3 : Int32) : Prop := (kX12_hold m) ∧ (lt (pX12_hold m) fun (u3 : MS) => (kX12_walls u3 a1 a2 a3) ∧ (bd (pX12_walls u3 a1 a2 a3) fun (r5 : Int32) (u6 : MS) => kX12_done u6 r5))
abbrev rX12_addWall : Room := { frames := 3, cells := 0, slots := 0, locals := 66 }
set_option maxHeartbeats 4000000 in
set_option maxRecDepth 100000 in
theorem mX12_addWall (l : Launch) (dC : Nat → ClassId) (dI : Nat → Nat → Nat) (cI cB cO cL : ClassId) (q : Nat → Nat) (m : MS) (a1 : Int32) (a2 : Int32) (a3 : Int32) (hI : gD (fun _ => True) (mAd q)) (hok : kX12_addWall m a1 a2 a3) : Met l yX12_addWall wsX12_addWall rX12_addWall (gP (dC, dI) (tYS cI cB cO cL) (mw q cI m) [.ref (q 0), .int a1, .int a2, .int a3]) (gQi (dC, dI) (fun m9 => mw q cI m9) (wA (mw q cI m)) (pX12_addWall m a1 a2 a3)) 0 0 (wA (mw q cI m)) := by
  refine gMet (cc := cX12_addWall) (maxL := 4) (ret := some .int) [(0, .ref (q 0)), (1, .int a1), (2, .int a2), (3, .int a3)] (by decide) rfl rfl rfl ?_
  intro p e s mi below meth c C0 hK hP ls hl
  obtain ⟨hx, hb, hr, hml, hown, hts, hlocks⟩ := id C0
  have hown : s.vm.findClass RX12 = some mi.cls := hown
  have hS : va_S (wA (mw q cI m)) s.heap s.heap [] := va_S.rf
  have hD : gD (wA (mw q cI m)) (mAd q) := gD_wA (ws := mw q cI m) hI
  have hP : va_P (dC, dI) vwCl (mw q cI m) s.heap := hP
  obtain ⟨F, hF⟩ : ∃ F, F = pX12_addWall m a1 a2 a3 := ⟨_, rfl⟩
  have hf := hF
  refine lv_aload_n hx hb dX12_addWall_0 rfl (lv_at hl 0 rfl) ?_
  obtain ⟨h1, hok⟩ := hok
  refine gms_v (va_runV (As := []) (rest := []) ⟨hx, hb, hml, hown, hts⟩ (mX12_hold l dC dI cI cB cO cL q m (gD_any hD) h1) (cwV 0 hts gX12_addWall_X12_hold rfl rfl rfl (by decide +kernel) ⟨Nat.le_of_ble_eq_true rfl, Nat.le_of_ble_eq_true rfl⟩) ⟨gP_blind, va_recv hK hP (ci := 9) (q0 := 0) rfl rfl, gP_ok hP hK⟩ rfl rfl hl.1 rfl (lv_room (Nat.le_of_ble_eq_true rfl)) dX12_addWall_1 ⟨Nat.zero_le _, Nat.zero_le _⟩) hP (gD_va hD rfl) hS (fun u3 H locs hw hP hS => ?_)
  have hP : va_P (dC, dI) vwCl (mw q cI u3) H := hP
  have hf := lt_eq hw hf
  have hok := lt_ok hw hok
  refine lv_aload_n hx hb dX12_addWall_4 rfl (lv_at hl 0 rfl) ?_
  refine lv_aload_n hx hb dX12_addWall_5 rfl (lv_at hl 0 rfl) ?_
  refine lv_iload_n hx hb dX12_addWall_6 rfl (lv_at hl 1 rfl) ?_
  refine lv_iload_n hx hb dX12_addWall_7 rfl (lv_at hl 2 rfl) ?_
  refine lv_iload_n hx hb dX12_addWall_8 rfl (lv_at hl 3 rfl) ?_
  obtain ⟨h4, hok⟩ := hok
  refine gms_i (va_runV (As := [.int a1, .int a2, .int a3]) (rest := [.ref (q 0)]) ⟨hx, hb, hml, hown, hts⟩ (mX12_walls l dC dI cI cB cO cL q u3 a1 a2 a3 (gD_any hD) h4) (cwV 3 hts gX12_addWall_X12_walls rfl rfl rfl (by decide +kernel) ⟨Nat.le_of_ble_eq_true rfl, Nat.le_of_ble_eq_true rfl⟩) ⟨gP_blind, va_recv hK hP (ci := 9) (q0 := 0) rfl rfl, gP_ok hP hK⟩ rfl rfl hl.1 rfl (lv_room (Nat.le_of_ble_eq_true rfl)) dX12_addWall_9 ⟨Nat.zero_le _, Nat.zero_le _⟩) hP (gD_va hD rfl) hS (fun r5 u6 H locs hw hP hS => ?_)
  have hP : va_P (dC, dI) vwCl (mw q cI u6) H := hP
  have hf := bd_eq hw hf
  have hok := bd_ok hw hok
  have h7 : kX12_done u6 r5 := hok
  refine gms_i (va_runV (As := [.int r5]) (rest := []) ⟨hx, hb, hml, hown, hts⟩ (mX12_done l dC dI cI cB cO cL q u6 r5 (gD_any hD) h7) (cwV 1 hts gX12_addWall_X12_done rfl rfl rfl (by decide +kernel) ⟨Nat.le_of_ble_eq_true rfl, Nat.le_of_ble_eq_true rfl⟩) ⟨gP_blind, va_recv hK hP (ci := 9) (q0 := 0) rfl rfl, gP_ok hP hK⟩ rfl rfl hl.1 rfl (lv_room (Nat.le_of_ble_eq_true rfl)) dX12_addWall_12 ⟨Nat.zero_le _, Nat.zero_le _⟩) hP (gD_va hD rfl) hS (fun r8 u9 H locs hw hP hS => ?_)
  have hP : va_P (dC, dI) vwCl (mw q cI u9) H := hP
  have hf := bd_eq hw hf
  exact e_mi C0 (hf.symm.trans hF) hP hS dX12_addWall_15
noncomputable def pX12_addScreen (m : MS) (a1 : Int32) (a2 : Int32) (a3 : Int32) (a4 : Int32) : Int32 × MS := lt (pX12_hold m) fun (u3 : MS) => bd (pX12_screens u3 a1 a2 a3 a4) fun (r5 : Int32) (u6 : MS) => bd (pX12_done u6 r5) fun (r8 : Int32) (u9 : MS) => (r8, u9)
def kX12_addScreen (m : MS) (a1 : Int32) (a2 : Int32) (a3 : Int32) (a4 : Int32) : Prop := (kX12_hold m) ∧ (lt (pX12_hold m) fun (u3 : MS) => (kX12_screens u3 a1 a2 a3 a4) ∧ (bd (pX12_screens u3 a1 a2 a3 a4) fun (r5 : Int32) (u6 : MS) => kX12_done u6 r5))
abbrev rX12_addScreen : Room := { frames := 3, cells := 0, slots := 0, locals := 67 }
set_option maxHeartbeats 4000000 in
set_option maxRecDepth 100000 in
theorem mX12_addScreen (l : Launch) (dC : Nat → ClassId) (dI : Nat → Nat → Nat) (cI cB cO cL : ClassId) (q : Nat → Nat) (m : MS) (a1 : Int32) (a2 : Int32) (a3 : Int32) (a4 : Int32) (hI : gD (fun _ => True) (mAd q)) (hok : kX12_addScreen m a1 a2 a3 a4) : Met l yX12_addScreen wsX12_addScreen rX12_addScreen (gP (dC, dI) (tYS cI cB cO cL) (mw q cI m) [.ref (q 0), .int a1, .int a2, .int a3, .int a4]) (gQi (dC, dI) (fun m9 => mw q cI m9) (wA (mw q cI m)) (pX12_addScreen m a1 a2 a3 a4)) 0 0 (wA (mw q cI m)) := by
  refine gMet (cc := cX12_addScreen) (maxL := 5) (ret := some .int) [(0, .ref (q 0)), (1, .int a1), (2, .int a2), (3, .int a3), (4, .int a4)] (by decide) rfl rfl rfl ?_
  intro p e s mi below meth c C0 hK hP ls hl
  obtain ⟨hx, hb, hr, hml, hown, hts, hlocks⟩ := id C0
  have hown : s.vm.findClass RX12 = some mi.cls := hown
  have hS : va_S (wA (mw q cI m)) s.heap s.heap [] := va_S.rf
  have hD : gD (wA (mw q cI m)) (mAd q) := gD_wA (ws := mw q cI m) hI
  have hP : va_P (dC, dI) vwCl (mw q cI m) s.heap := hP
  obtain ⟨F, hF⟩ : ∃ F, F = pX12_addScreen m a1 a2 a3 a4 := ⟨_, rfl⟩
  have hf := hF
  refine lv_aload_n hx hb dX12_addScreen_0 rfl (lv_at hl 0 rfl) ?_
  obtain ⟨h1, hok⟩ := hok
  refine gms_v (va_runV (As := []) (rest := []) ⟨hx, hb, hml, hown, hts⟩ (mX12_hold l dC dI cI cB cO cL q m (gD_any hD) h1) (cwV 0 hts gX12_addScreen_X12_hold rfl rfl rfl (by decide +kernel) ⟨Nat.le_of_ble_eq_true rfl, Nat.le_of_ble_eq_true rfl⟩) ⟨gP_blind, va_recv hK hP (ci := 9) (q0 := 0) rfl rfl, gP_ok hP hK⟩ rfl rfl hl.1 rfl (lv_room (Nat.le_of_ble_eq_true rfl)) dX12_addScreen_1 ⟨Nat.zero_le _, Nat.zero_le _⟩) hP (gD_va hD rfl) hS (fun u3 H locs hw hP hS => ?_)
  have hP : va_P (dC, dI) vwCl (mw q cI u3) H := hP
  have hf := lt_eq hw hf
  have hok := lt_ok hw hok
  refine lv_aload_n hx hb dX12_addScreen_4 rfl (lv_at hl 0 rfl) ?_
  refine lv_aload_n hx hb dX12_addScreen_5 rfl (lv_at hl 0 rfl) ?_
  refine lv_iload_n hx hb dX12_addScreen_6 rfl (lv_at hl 1 rfl) ?_
  refine lv_iload_n hx hb dX12_addScreen_7 rfl (lv_at hl 2 rfl) ?_
  refine lv_iload_n hx hb dX12_addScreen_8 rfl (lv_at hl 3 rfl) ?_
  refine lv_iload hx hb dX12_addScreen_9 (lv_at hl 4 rfl) ?_
  obtain ⟨h4, hok⟩ := hok
  refine gms_i (va_runV (As := [.int a1, .int a2, .int a3, .int a4]) (rest := [.ref (q 0)]) ⟨hx, hb, hml, hown, hts⟩ (mX12_screens l dC dI cI cB cO cL q u3 a1 a2 a3 a4 (gD_any hD) h4) (cwV 4 hts gX12_addScreen_X12_screens rfl rfl rfl (by decide +kernel) ⟨Nat.le_of_ble_eq_true rfl, Nat.le_of_ble_eq_true rfl⟩) ⟨gP_blind, va_recv hK hP (ci := 9) (q0 := 0) rfl rfl, gP_ok hP hK⟩ rfl rfl hl.1 rfl (lv_room (Nat.le_of_ble_eq_true rfl)) dX12_addScreen_11 ⟨Nat.zero_le _, Nat.zero_le _⟩) hP (gD_va hD rfl) hS (fun r5 u6 H locs hw hP hS => ?_)
  have hP : va_P (dC, dI) vwCl (mw q cI u6) H := hP
  have hf := bd_eq hw hf
  have hok := bd_ok hw hok
  have h7 : kX12_done u6 r5 := hok
  refine gms_i (va_runV (As := [.int r5]) (rest := []) ⟨hx, hb, hml, hown, hts⟩ (mX12_done l dC dI cI cB cO cL q u6 r5 (gD_any hD) h7) (cwV 1 hts gX12_addScreen_X12_done rfl rfl rfl (by decide +kernel) ⟨Nat.le_of_ble_eq_true rfl, Nat.le_of_ble_eq_true rfl⟩) ⟨gP_blind, va_recv hK hP (ci := 9) (q0 := 0) rfl rfl, gP_ok hP hK⟩ rfl rfl hl.1 rfl (lv_room (Nat.le_of_ble_eq_true rfl)) dX12_addScreen_14 ⟨Nat.zero_le _, Nat.zero_le _⟩) hP (gD_va hD rfl) hS (fun r8 u9 H locs hw hP hS => ?_)
  have hP : va_P (dC, dI) vwCl (mw q cI u9) H := hP
  have hf := bd_eq hw hf
  exact e_mi C0 (hf.symm.trans hF) hP hS dX12_addScreen_17
noncomputable def pX12_wide (a1 : Int32) : Int32 := if a1 = 0 then (10) else (if a1 = 1 then (3) else (4))
abbrev rX12_wide : Room := { frames := 0, cells := 0, slots := 0, locals := 0 }
set_option maxHeartbeats 4000000 in
set_option maxRecDepth 100000 in
theorem mX12_wide (l : Launch) (dC : Nat → ClassId) (dI : Nat → Nat → Nat) (cI cB cO cL : ClassId)  (a1 : Int32) : Met l yX12_wide wsX12_wide rX12_wide (gP (dC, dI) (tYS cI cB cO cL) ([]) [.int a1]) (gRi (pX12_wide a1)) 0 0 (fun _ => False) := by
  refine gMet (cc := cX12_wide) (maxL := 1) (ret := some .int) [(0, .int a1)] (by decide) rfl rfl rfl ?_
  intro p e s mi below meth c C0 hK hP ls hl
  obtain ⟨hx, hb, hr, hml, hown, hts, hlocks⟩ := id C0
  have hown : s.vm.findClass RX12 = some mi.cls := hown
  obtain ⟨F, hF⟩ : ∃ F, F = pX12_wide a1 := ⟨_, rfl⟩
  have hf := hF
  refine lv_iload_n hx hb dX12_wide_0 rfl (lv_at hl 0 rfl) ?_
  refine lv_if_ne (tgt := 9) hx hb dX12_wide_1 (by decide) (fun c1 => ?_) (fun c1 => ?_)
  · have hf := ie_eq c1 hf
    refine lv_iload_n hx hb dX12_wide_9 rfl (lv_at hl 0 rfl) ?_
    refine lv_iconst (v := 1) hx hb dX12_wide_10 (by decide) ?_
    refine lv_icmp_ne (tgt := 18) hx hb dX12_wide_11 (by decide) (fun c2 => ?_) (fun c2 => ?_)
    · have hf := ie_eq c2 hf
      refine lv_iconst (v := 4) hx hb dX12_wide_18 (by decide) ?_
      exact e_ri C0 (hf.symm.trans hF) dX12_wide_19
    · have hf := it_eq c2 hf
      refine lv_iconst (v := 3) hx hb dX12_wide_14 (by decide) ?_
      refine lv_goto (tgt := 19) hx hb dX12_wide_15 (by decide) ?_
      exact e_ri C0 (hf.symm.trans hF) dX12_wide_19
  · have hf := it_eq c1 hf
    refine lv_bipush (v := 10) hx hb dX12_wide_4 (by decide) ?_
    refine lv_goto (tgt := 19) hx hb dX12_wide_6 (by decide) ?_
    exact e_ri C0 (hf.symm.trans hF) dX12_wide_19
noncomputable def pX12_startOf (a1 : Int32) : Int32 := if a1 = 0 then (14) else (if a1 = 1 then (94) else (106))
abbrev rX12_startOf : Room := { frames := 0, cells := 0, slots := 0, locals := 0 }
set_option maxHeartbeats 4000000 in
set_option maxRecDepth 100000 in
theorem mX12_startOf (l : Launch) (dC : Nat → ClassId) (dI : Nat → Nat → Nat) (cI cB cO cL : ClassId)  (a1 : Int32) : Met l yX12_startOf wsX12_startOf rX12_startOf (gP (dC, dI) (tYS cI cB cO cL) ([]) [.int a1]) (gRi (pX12_startOf a1)) 0 0 (fun _ => False) := by
  refine gMet (cc := cX12_startOf) (maxL := 1) (ret := some .int) [(0, .int a1)] (by decide) rfl rfl rfl ?_
  intro p e s mi below meth c C0 hK hP ls hl
  obtain ⟨hx, hb, hr, hml, hown, hts, hlocks⟩ := id C0
  have hown : s.vm.findClass RX12 = some mi.cls := hown
  obtain ⟨F, hF⟩ : ∃ F, F = pX12_startOf a1 := ⟨_, rfl⟩
  have hf := hF
  refine lv_iload_n hx hb dX12_startOf_0 rfl (lv_at hl 0 rfl) ?_
  refine lv_if_ne (tgt := 9) hx hb dX12_startOf_1 (by decide) (fun c1 => ?_) (fun c1 => ?_)
  · have hf := ie_eq c1 hf
    refine lv_iload_n hx hb dX12_startOf_9 rfl (lv_at hl 0 rfl) ?_
    refine lv_iconst (v := 1) hx hb dX12_startOf_10 (by decide) ?_
    refine lv_icmp_ne (tgt := 19) hx hb dX12_startOf_11 (by decide) (fun c2 => ?_) (fun c2 => ?_)
    · have hf := ie_eq c2 hf
      refine lv_bipush (v := 106) hx hb dX12_startOf_19 (by decide) ?_
      exact e_ri C0 (hf.symm.trans hF) dX12_startOf_21
    · have hf := it_eq c2 hf
      refine lv_bipush (v := 94) hx hb dX12_startOf_14 (by decide) ?_
      refine lv_goto (tgt := 21) hx hb dX12_startOf_16 (by decide) ?_
      exact e_ri C0 (hf.symm.trans hF) dX12_startOf_21
  · have hf := it_eq c1 hf
    refine lv_bipush (v := 14) hx hb dX12_startOf_4 (by decide) ?_
    refine lv_goto (tgt := 21) hx hb dX12_startOf_6 (by decide) ?_
    exact e_ri C0 (hf.symm.trans hF) dX12_startOf_21
noncomputable def pX12_remove_L31   (m_31 : MS) : Int32 × MS := bd (pX12_fails m_31 2) fun (r3 : Int32) (u4 : MS) => (r3, u4)
noncomputable def bX12_remove_L85   (q_85 : Int32 → Int32 → Int32 → Int32 → MS → (Int32 × MS)) (v1_85 : Int32) (v3_85 : Int32) (v4_85 : Int32) (v5_85 : Int32) (m_85 : MS) : Int32 × MS := if v4_85 ≤ v5_85 then (bd (pX12_ends m_85 ((m_85.2.2 0) ((2 + v1_85).toNatClampNeg))) fun (r16 : Int32) (u17 : MS) => (r16, u17)) else (lt (msa m_85 0 (upd (m_85.2.2 0) v5_85.toNatClampNeg ((m_85.2.2 0) ((v5_85 + v3_85).toNatClampNeg)))) fun (m_20 : MS) => lt (v5_85 + 1) fun (x21 : Int32) => q_85 v1_85 v3_85 v4_85 x21 m_20)
noncomputable def pX12_remove_L85   : Nat → Int32 → Int32 → Int32 → Int32 → MS → (Int32 × MS)
  | 0 => fun _ _ _ _ m_85 => (0, m_85)
  | n + 1 => bX12_remove_L85   (pX12_remove_L85   n)
def kbX12_remove_L85   (Q_85 : Int32 → Int32 → Int32 → Int32 → MS → Prop) (v1_85 : Int32) (v3_85 : Int32) (v4_85 : Int32) (v5_85 : Int32) (m_85 : MS) : Prop := if v4_85 ≤ v5_85 then ((vp_in (2 + v1_85) 122) ∧ (kX12_ends m_85 ((m_85.2.2 0) ((2 + v1_85).toNatClampNeg)))) else ((vp_in (v5_85 + v3_85) 122) ∧ ((vp_in v5_85 122) ∧ (lt (msa m_85 0 (upd (m_85.2.2 0) v5_85.toNatClampNeg ((m_85.2.2 0) ((v5_85 + v3_85).toNatClampNeg)))) fun (m_20 : MS) => lt (v5_85 + 1) fun (x21 : Int32) => Q_85 v1_85 v3_85 v4_85 x21 m_20)))
noncomputable def kX12_remove_L85   : Nat → Int32 → Int32 → Int32 → Int32 → MS → Prop
  | 0 => fun _ _ _ _ _ => False
  | n + 1 => kbX12_remove_L85   (kX12_remove_L85   n)
noncomputable def pX12_remove (m : MS) (a1 : Int32) (a2 : Int32) : Int32 × MS := if (pX12_in a1 0 2) = true then (if a2 < 0 then (pX12_remove_L31 m) else (if a2 < ((m.2.2 0) ((2 + a1).toNatClampNeg)) then (lt (pX12_hold m) fun (u8 : MS) => lt (msa u8 0 (upd (u8.2.2 0) ((2 + a1).toNatClampNeg) (((u8.2.2 0) ((2 + a1).toNatClampNeg)) - 1))) fun (m_10 : MS) => lt (pX12_wide a1) fun (x11 : Int32) => lt ((pX12_startOf a1) + (x11 * ((m_10.2.2 0) ((2 + a1).toNatClampNeg)))) fun (x12 : Int32) => lt ((pX12_startOf a1) + (x11 * a2)) fun (x13 : Int32) => pX12_remove_L85 fu a1 x11 x12 x13 m_10) else (pX12_remove_L31 m))) else (bd (pX12_fails m 1) fun (r26 : Int32) (u27 : MS) => (r26, u27))
def kX12_remove (m : MS) (a1 : Int32) (a2 : Int32) : Prop := if (pX12_in a1 0 2) = true then (if a2 < 0 then (True) else ((vp_in (2 + a1) 122) ∧ (if a2 < ((m.2.2 0) ((2 + a1).toNatClampNeg)) then ((kX12_hold m) ∧ (lt (pX12_hold m) fun (u8 : MS) => (vp_in (2 + a1) 122) ∧ ((vp_in (2 + a1) 122) ∧ (lt (msa u8 0 (upd (u8.2.2 0) ((2 + a1).toNatClampNeg) (((u8.2.2 0) ((2 + a1).toNatClampNeg)) - 1))) fun (m_10 : MS) => lt (pX12_wide a1) fun (x11 : Int32) => (vp_in (2 + a1) 122) ∧ (lt ((pX12_startOf a1) + (x11 * ((m_10.2.2 0) ((2 + a1).toNatClampNeg)))) fun (x12 : Int32) => lt ((pX12_startOf a1) + (x11 * a2)) fun (x13 : Int32) => kX12_remove_L85 fu a1 x11 x12 x13 m_10))))) else (True)))) else (True)
abbrev rX12_remove : Room := { frames := 2, cells := 0, slots := 0, locals := 43 }
set_option maxHeartbeats 4000000 in
set_option maxRecDepth 100000 in
theorem mX12_remove (l : Launch) (dC : Nat → ClassId) (dI : Nat → Nat → Nat) (cI cB cO cL : ClassId) (q : Nat → Nat) (m : MS) (a1 : Int32) (a2 : Int32) (hI : gD (fun _ => True) (mAd q)) (hok : kX12_remove m a1 a2) : Met l yX12_remove wsX12_remove rX12_remove (gP (dC, dI) (tYS cI cB cO cL) (mw q cI m) [.ref (q 0), .int a1, .int a2]) (gQi (dC, dI) (fun m9 => mw q cI m9) (wA (mw q cI m)) (pX12_remove m a1 a2)) 0 0 (wA (mw q cI m)) := by
  refine gMet (cc := cX12_remove) (maxL := 6) (ret := some .int) [(0, .ref (q 0)), (1, .int a1), (2, .int a2)] (by decide) rfl rfl rfl ?_
  intro p e s mi below meth c C0 hK hP ls hl
  obtain ⟨hx, hb, hr, hml, hown, hts, hlocks⟩ := id C0
  have hown : s.vm.findClass RX12 = some mi.cls := hown
  have hS : va_S (wA (mw q cI m)) s.heap s.heap [] := va_S.rf
  have hD : gD (wA (mw q cI m)) (mAd q) := gD_wA (ws := mw q cI m) hI
  have hP : va_P (dC, dI) vwCl (mw q cI m) s.heap := hP
  obtain ⟨F, hF⟩ : ∃ F, F = pX12_remove m a1 a2 := ⟨_, rfl⟩
  have hf := hF
  have hin12 : ∀ w ∈ u_ws RX12 TX12 23, w ∈ wsX12_remove := by decide +kernel
  have fl7 := hts (.fieldLink RX12 7 "ClickBenchModel" "s" "[I") (by decide +kernel)
  have J_31 : ∀ (m_31 : MS) (H : Heap) (locs : List Loc), va_P (dC, dI) vwCl (mw q cI m_31) H → va_S (wA (mw q cI m)) s.heap H locs → ∀ ls : Array Slot, lv_has ls 6 [(0, .ref (q 0))] → F = pX12_remove_L31 m_31 → W p l e rX12_remove s mi ([.ref (q 0), .int a1, .int a2] : List Value).toArray below meth c H locs 0 0 (MQ below (gQi (dC, dI) (fun m9 => mw q cI m9) (wA (mw q cI m)) (pX12_remove m a1 a2)) ([.ref (q 0), .int a1, .int a2] : List Value).toArray s 0 0 (wA (mw q cI m))) (F0 mi 31 ls []) := by
    intro m_31 H locs hP hS ls hl hf
    refine lv_aload_n hx hb dX12_remove_31 rfl (lv_at hl 0 rfl) ?_
    refine lv_iconst (v := 2) hx hb dX12_remove_32 (by decide) ?_
    refine gms_i (va_runV (As := [.int 2]) (rest := []) ⟨hx, hb, hml, hown, hts⟩ (mX12_fails l dC dI cI cB cO cL q m_31 2 (gD_any hD) ) (cwV 1 hts gX12_remove_X12_fails rfl rfl rfl (by decide +kernel) ⟨Nat.le_of_ble_eq_true rfl, Nat.le_of_ble_eq_true rfl⟩) ⟨gP_blind, va_recv hK hP (ci := 9) (q0 := 0) rfl rfl, gP_ok hP hK⟩ rfl rfl hl.1 rfl (lv_room (Nat.le_of_ble_eq_true rfl)) dX12_remove_33 ⟨Nat.zero_le _, Nat.zero_le _⟩) hP (gD_va hD rfl) hS (fun r3 u4 H locs hw hP hS => ?_)
    have hP : va_P (dC, dI) vwCl (mw q cI u4) H := hP
    have hf := bd_eq hw hf
    exact e_mi C0 (hf.symm.trans hF) hP hS dX12_remove_36
  have J_85 : ∀ (n_85 : Nat) (v1_85 : Int32) (v3_85 : Int32) (v4_85 : Int32) (v5_85 : Int32) (m_85 : MS) (H : Heap) (locs : List Loc), va_P (dC, dI) vwCl (mw q cI m_85) H → va_S (wA (mw q cI m)) s.heap H locs → ∀ ls : Array Slot, lv_has ls 6 [(0, .ref (q 0)), (1, .int v1_85), (3, .int v3_85), (4, .int v4_85), (5, .int v5_85)] → F = pX12_remove_L85 n_85 v1_85 v3_85 v4_85 v5_85 m_85 → kX12_remove_L85 n_85 v1_85 v3_85 v4_85 v5_85 m_85 → W p l e rX12_remove s mi ([.ref (q 0), .int a1, .int a2] : List Value).toArray below meth c H locs 0 0 (MQ below (gQi (dC, dI) (fun m9 => mw q cI m9) (wA (mw q cI m)) (pX12_remove m a1 a2)) ([.ref (q 0), .int a1, .int a2] : List Value).toArray s 0 0 (wA (mw q cI m))) (F0 mi 85 ls []) := by
    intro n_85
    induction n_85 with
    | zero =>
      intro v1_85 v3_85 v4_85 v5_85 m_85 H locs hP hS ls hl hf hok
      exact absurd hok (fun h => h)
    | succ n_85 ih_85 =>
      intro v1_85 v3_85 v4_85 v5_85 m_85 H locs hP hS ls hl hf hok
      have hf : F = bX12_remove_L85 (pX12_remove_L85 n_85) v1_85 v3_85 v4_85 v5_85 m_85 := hf
      have hok : kbX12_remove_L85 (kX12_remove_L85 n_85) v1_85 v3_85 v4_85 v5_85 m_85 := hok
      refine lv_iload hx hb dX12_remove_85 (lv_at hl 4 rfl) ?_
      refine lv_iload hx hb dX12_remove_87 (lv_at hl 3 rfl) ?_
      refine lv_icmp_ge (tgt := 114) hx hb dX12_remove_89 (by decide) (fun c14 => ?_) (fun c14 => ?_)
      · have hf := it_eq c14 hf
        have hok := it_ok c14 hok
        refine lv_aload_n hx hb dX12_remove_114 rfl (lv_at hl 0 rfl) ?_
        refine lv_aload_n hx hb dX12_remove_115 rfl (lv_at hl 0 rfl) ?_
        refine va_get (D := (dC, dI)) (ci := 9) (v := .ref (q 1)) (C := RX12) (T := TX12) (N := 23) hx hb hts hin12 hown hK hP 0 rfl rfl 0 (by decide) fl7 (fun _ h9 => h9) rfl dX12_remove_116 ?_
        refine lv_iconst (v := 2) hx hb dX12_remove_119 (by decide) ?_
        refine lv_iload_n hx hb dX12_remove_120 rfl (lv_at hl 1 rfl) ?_
        refine lv_iadd hx hb dX12_remove_121 ?_
        obtain ⟨h18, hok⟩ := hok
        refine va_iald (D := (dC, dI)) (tys := (tYS cI cB cO cL)) hx hb hK hP 1 0 rfl rfl h18 dX12_remove_122 ?_
        have h15 : kX12_ends m_85 ((m_85.2.2 0) ((2 + v1_85).toNatClampNeg)) := hok
        refine gms_i (va_runV (As := [.int ((m_85.2.2 0) ((2 + v1_85).toNatClampNeg))]) (rest := []) ⟨hx, hb, hml, hown, hts⟩ (mX12_ends l dC dI cI cB cO cL q m_85 ((m_85.2.2 0) ((2 + v1_85).toNatClampNeg)) (gD_any hD) h15) (cwV 1 hts gX12_remove_X12_ends rfl rfl rfl (by decide +kernel) ⟨Nat.le_of_ble_eq_true rfl, Nat.le_of_ble_eq_true rfl⟩) ⟨gP_blind, va_recv hK hP (ci := 9) (q0 := 0) rfl rfl, gP_ok hP hK⟩ rfl rfl hl.1 rfl (lv_room (Nat.le_of_ble_eq_true rfl)) dX12_remove_123 ⟨Nat.zero_le _, Nat.zero_le _⟩) hP (gD_va hD rfl) hS (fun r16 u17 H locs hw hP hS => ?_)
        have hP : va_P (dC, dI) vwCl (mw q cI u17) H := hP
        have hf := bd_eq hw hf
        exact e_mi C0 (hf.symm.trans hF) hP hS dX12_remove_126
      · have hf := ie_eq c14 hf
        have hok := ie_ok c14 hok
        refine lv_aload_n hx hb dX12_remove_92 rfl (lv_at hl 0 rfl) ?_
        refine va_get (D := (dC, dI)) (ci := 9) (v := .ref (q 1)) (C := RX12) (T := TX12) (N := 23) hx hb hts hin12 hown hK hP 0 rfl rfl 0 (by decide) fl7 (fun _ h9 => h9) rfl dX12_remove_93 ?_
        refine lv_iload hx hb dX12_remove_96 (lv_at hl 4 rfl) ?_
        refine lv_aload_n hx hb dX12_remove_98 rfl (lv_at hl 0 rfl) ?_
        refine va_get (D := (dC, dI)) (ci := 9) (v := .ref (q 1)) (C := RX12) (T := TX12) (N := 23) hx hb hts hin12 hown hK hP 0 rfl rfl 0 (by decide) fl7 (fun _ h9 => h9) rfl dX12_remove_99 ?_
        refine lv_iload hx hb dX12_remove_102 (lv_at hl 4 rfl) ?_
        refine lv_iload_n hx hb dX12_remove_104 rfl (lv_at hl 2 rfl) ?_
        refine lv_iadd hx hb dX12_remove_105 ?_
        obtain ⟨h22, hok⟩ := hok
        refine va_iald (D := (dC, dI)) (tys := (tYS cI cB cO cL)) hx hb hK hP 1 0 rfl rfl h22 dX12_remove_106 ?_
        obtain ⟨h19, hok⟩ := hok
        refine va_iast (D := (dC, dI)) (tys := (tYS cI cB cO cL)) hx hb hK hP (gD_va hD rfl) hS 1 0 rfl rfl h19 dX12_remove_107 (fun H locs hP _ hS => ?_)
        obtain ⟨m_20, em_20⟩ : ∃ z9 : MS, z9 = msa m_85 0 (upd (m_85.2.2 0) v5_85.toNatClampNeg ((m_85.2.2 0) ((v5_85 + v3_85).toNatClampNeg))) := ⟨_, rfl⟩
        have hP : va_P (dC, dI) vwCl (mw q cI m_20) H := by rw [em_20]; exact hP
        have hf := lt_eq em_20 hf
        have hok := lt_ok em_20 hok
        obtain ⟨x21, ex21⟩ : ∃ y : Int32, y = v5_85 + 1 := ⟨_, rfl⟩
        refine lv_iinc (v := x21) (lv' := [(5, .int x21), (0, .ref (q 0)), (1, .int v1_85), (3, .int v3_85), (4, .int v4_85)]) hx hb dX12_remove_108 hl (k := 4) rfl (by rw [ex21]; rfl) (by decide) rfl (fun ls hl => ?_)
        have hf := lt_eq ex21 hf
        have hok := lt_ok ex21 hok
        refine lv_goto (tgt := 85) hx hb dX12_remove_111 (by decide) ?_
        exact ih_85 v1_85 v3_85 v4_85 x21 m_20 _ _ hP hS _ (lv_sub hl [1, 2, 3, 4, 0] rfl) hf hok
  refine lv_iload_n hx hb dX12_remove_0 rfl (lv_at hl 1 rfl) ?_
  refine lv_iconst (v := 0) hx hb dX12_remove_1 (by decide) ?_
  refine lv_iconst (v := 2) hx hb dX12_remove_2 (by decide) ?_
  refine gro_i (va_runS (As := [.int a1, .int 0, .int 2]) (rest := []) ⟨hx, hb, hml, hown, hts⟩ (mX12_in l dC dI cI cB cO cL  a1 0 2  ) (va_cwS 3 hts gX12_remove_X12_in rfl rfl rfl (by decide +kernel) ⟨Nat.le_of_ble_eq_true rfl, Nat.le_of_ble_eq_true rfl⟩) ⟨gP_blind, gP_ok va_P_nil hK⟩ rfl rfl hl.1 rfl (lv_room (Nat.le_of_ble_eq_true rfl)) dX12_remove_3 ⟨Nat.zero_le _, Nat.zero_le _⟩) ?_
  refine lv_if_ne (tgt := 15) hx hb dX12_remove_6 (by decide) (fun c1 => ?_) (fun c1 => ?_)
  · have c1 := bz_t c1
    have hf := it_eq c1 hf
    have hok := it_ok c1 hok
    refine lv_iload_n hx hb dX12_remove_15 rfl (lv_at hl 2 rfl) ?_
    refine lv_if_lt (tgt := 31) hx hb dX12_remove_16 (by decide) (fun c2 => ?_) (fun c2 => ?_)
    · have hf := it_eq c2 hf
      exact J_31 m _ _ hP hS _ (lv_sub hl [0] rfl) hf
    · have hf := ie_eq c2 hf
      have hok := ie_ok c2 hok
      refine lv_iload_n hx hb dX12_remove_19 rfl (lv_at hl 2 rfl) ?_
      refine lv_aload_n hx hb dX12_remove_20 rfl (lv_at hl 0 rfl) ?_
      refine va_get (D := (dC, dI)) (ci := 9) (v := .ref (q 1)) (C := RX12) (T := TX12) (N := 23) hx hb hts hin12 hown hK hP 0 rfl rfl 0 (by decide) fl7 (fun _ h9 => h9) rfl dX12_remove_21 ?_
      refine lv_iconst (v := 2) hx hb dX12_remove_24 (by decide) ?_
      refine lv_iload_n hx hb dX12_remove_25 rfl (lv_at hl 1 rfl) ?_
      refine lv_iadd hx hb dX12_remove_26 ?_
      obtain ⟨h25, hok⟩ := hok
      refine va_iald (D := (dC, dI)) (tys := (tYS cI cB cO cL)) hx hb hK hP 1 0 rfl rfl h25 dX12_remove_27 ?_
      refine lv_icmp_lt (tgt := 37) hx hb dX12_remove_28 (by decide) (fun c5 => ?_) (fun c5 => ?_)
      · have hf := it_eq c5 hf
        have hok := it_ok c5 hok
        refine lv_aload_n hx hb dX12_remove_37 rfl (lv_at hl 0 rfl) ?_
        obtain ⟨h6, hok⟩ := hok
        refine gms_v (va_runV (As := []) (rest := []) ⟨hx, hb, hml, hown, hts⟩ (mX12_hold l dC dI cI cB cO cL q m (gD_any hD) h6) (cwV 0 hts gX12_remove_X12_hold rfl rfl rfl (by decide +kernel) ⟨Nat.le_of_ble_eq_true rfl, Nat.le_of_ble_eq_true rfl⟩) ⟨gP_blind, va_recv hK hP (ci := 9) (q0 := 0) rfl rfl, gP_ok hP hK⟩ rfl rfl hl.1 rfl (lv_room (Nat.le_of_ble_eq_true rfl)) dX12_remove_38 ⟨Nat.zero_le _, Nat.zero_le _⟩) hP (gD_va hD rfl) hS (fun u8 H locs hw hP hS => ?_)
        have hP : va_P (dC, dI) vwCl (mw q cI u8) H := hP
        have hf := lt_eq hw hf
        have hok := lt_ok hw hok
        refine lv_aload_n hx hb dX12_remove_41 rfl (lv_at hl 0 rfl) ?_
        refine va_get (D := (dC, dI)) (ci := 9) (v := .ref (q 1)) (C := RX12) (T := TX12) (N := 23) hx hb hts hin12 hown hK hP 0 rfl rfl 0 (by decide) fl7 (fun _ h9 => h9) rfl dX12_remove_42 ?_
        refine lv_iconst (v := 2) hx hb dX12_remove_45 (by decide) ?_
        refine lv_iload_n hx hb dX12_remove_46 rfl (lv_at hl 1 rfl) ?_
        refine lv_iadd hx hb dX12_remove_47 ?_
        refine lv_dup2_11 hx hb dX12_remove_48 rfl rfl ?_
        obtain ⟨h24, hok⟩ := hok
        refine va_iald (D := (dC, dI)) (tys := (tYS cI cB cO cL)) hx hb hK hP 1 0 rfl rfl h24 dX12_remove_49 ?_
        refine lv_iconst (v := 1) hx hb dX12_remove_50 (by decide) ?_
        refine lv_isub hx hb dX12_remove_51 ?_
        obtain ⟨h9, hok⟩ := hok
        refine va_iast (D := (dC, dI)) (tys := (tYS cI cB cO cL)) hx hb hK hP (gD_va hD rfl) hS 1 0 rfl rfl h9 dX12_remove_52 (fun H locs hP _ hS => ?_)
        obtain ⟨m_10, em_10⟩ : ∃ z9 : MS, z9 = msa u8 0 (upd (u8.2.2 0) ((2 + a1).toNatClampNeg) (((u8.2.2 0) ((2 + a1).toNatClampNeg)) - 1)) := ⟨_, rfl⟩
        have hP : va_P (dC, dI) vwCl (mw q cI m_10) H := by rw [em_10]; exact hP
        have hf := lt_eq em_10 hf
        have hok := lt_ok em_10 hok
        refine lv_iload_n hx hb dX12_remove_53 rfl (lv_at hl 1 rfl) ?_
        refine gro_i (va_runS (As := [.int a1]) (rest := []) ⟨hx, hb, hml, hown, hts⟩ (mX12_wide l dC dI cI cB cO cL  a1  ) (va_cwS 1 hts gX12_remove_X12_wide rfl rfl rfl (by decide +kernel) ⟨Nat.le_of_ble_eq_true rfl, Nat.le_of_ble_eq_true rfl⟩) ⟨gP_blind, gP_ok va_P_nil hK⟩ rfl rfl hl.1 rfl (lv_room (Nat.le_of_ble_eq_true rfl)) dX12_remove_54 ⟨Nat.zero_le _, Nat.zero_le _⟩) ?_
        refine lv_topi (fun x11 ex11 => ?_)
        have hf := lt_eq ex11 hf
        have hok := lt_ok ex11 hok
        refine lv_istore_n (lv' := [(3, .int x11), (0, .ref (q 0)), (1, .int a1), (2, .int a2)]) hx hb dX12_remove_57 rfl hl (by decide) rfl (fun ls hl => ?_)
        refine lv_iload_n hx hb dX12_remove_58 rfl (lv_at hl 2 rfl) ?_
        refine gro_i (va_runS (As := [.int a1]) (rest := []) ⟨hx, hb, hml, hown, hts⟩ (mX12_startOf l dC dI cI cB cO cL  a1  ) (va_cwS 1 hts gX12_remove_X12_startOf rfl rfl rfl (by decide +kernel) ⟨Nat.le_of_ble_eq_true rfl, Nat.le_of_ble_eq_true rfl⟩) ⟨gP_blind, gP_ok va_P_nil hK⟩ rfl rfl hl.1 rfl (lv_room (Nat.le_of_ble_eq_true rfl)) dX12_remove_59 ⟨Nat.zero_le _, Nat.zero_le _⟩) ?_
        refine lv_iload_n hx hb dX12_remove_62 rfl (lv_at hl 0 rfl) ?_
        refine lv_aload_n hx hb dX12_remove_63 rfl (lv_at hl 1 rfl) ?_
        refine va_get (D := (dC, dI)) (ci := 9) (v := .ref (q 1)) (C := RX12) (T := TX12) (N := 23) hx hb hts hin12 hown hK hP 0 rfl rfl 0 (by decide) fl7 (fun _ h9 => h9) rfl dX12_remove_64 ?_
        refine lv_iconst (v := 2) hx hb dX12_remove_67 (by decide) ?_
        refine lv_iload_n hx hb dX12_remove_68 rfl (lv_at hl 2 rfl) ?_
        refine lv_iadd hx hb dX12_remove_69 ?_
        obtain ⟨h23, hok⟩ := hok
        refine va_iald (D := (dC, dI)) (tys := (tYS cI cB cO cL)) hx hb hK hP 1 0 rfl rfl h23 dX12_remove_70 ?_
        refine lv_imul hx hb dX12_remove_71 ?_
        refine lv_iadd hx hb dX12_remove_72 ?_
        refine lv_topi (fun x12 ex12 => ?_)
        have hf := lt_eq ex12 hf
        have hok := lt_ok ex12 hok
        refine lv_istore (lv' := [(4, .int x12), (3, .int x11), (0, .ref (q 0)), (1, .int a1), (2, .int a2)]) hx hb dX12_remove_73 hl (by decide) rfl (fun ls hl => ?_)
        refine lv_iload_n hx hb dX12_remove_75 rfl (lv_at hl 3 rfl) ?_
        refine gro_i (va_runS (As := [.int a1]) (rest := []) ⟨hx, hb, hml, hown, hts⟩ (mX12_startOf l dC dI cI cB cO cL  a1  ) (va_cwS 1 hts gX12_remove_X12_startOf rfl rfl rfl (by decide +kernel) ⟨Nat.le_of_ble_eq_true rfl, Nat.le_of_ble_eq_true rfl⟩) ⟨gP_blind, gP_ok va_P_nil hK⟩ rfl rfl hl.1 rfl (lv_room (Nat.le_of_ble_eq_true rfl)) dX12_remove_76 ⟨Nat.zero_le _, Nat.zero_le _⟩) ?_
        refine lv_iload_n hx hb dX12_remove_79 rfl (lv_at hl 1 rfl) ?_
        refine lv_iload_n hx hb dX12_remove_80 rfl (lv_at hl 4 rfl) ?_
        refine lv_imul hx hb dX12_remove_81 ?_
        refine lv_iadd hx hb dX12_remove_82 ?_
        refine lv_topi (fun x13 ex13 => ?_)
        have hf := lt_eq ex13 hf
        have hok := lt_ok ex13 hok
        refine lv_istore (lv' := [(5, .int x13), (4, .int x12), (3, .int x11), (0, .ref (q 0)), (1, .int a1), (2, .int a2)]) hx hb dX12_remove_83 hl (by decide) rfl (fun ls hl => ?_)
        exact J_85 fu a1 x11 x12 x13 m_10 _ _ hP hS _ (lv_sub hl [3, 4, 2, 1, 0] rfl) hf hok
      · have hf := ie_eq c5 hf
        exact J_31 m _ _ hP hS _ (lv_sub hl [0] rfl) hf
  · have c1 := bz_f c1
    have hf := ie_eq c1 hf
    refine lv_aload_n hx hb dX12_remove_9 rfl (lv_at hl 0 rfl) ?_
    refine lv_iconst (v := 1) hx hb dX12_remove_10 (by decide) ?_
    refine gms_i (va_runV (As := [.int 1]) (rest := []) ⟨hx, hb, hml, hown, hts⟩ (mX12_fails l dC dI cI cB cO cL q m 1 (gD_any hD) ) (cwV 1 hts gX12_remove_X12_fails rfl rfl rfl (by decide +kernel) ⟨Nat.le_of_ble_eq_true rfl, Nat.le_of_ble_eq_true rfl⟩) ⟨gP_blind, va_recv hK hP (ci := 9) (q0 := 0) rfl rfl, gP_ok hP hK⟩ rfl rfl hl.1 rfl (lv_room (Nat.le_of_ble_eq_true rfl)) dX12_remove_11 ⟨Nat.zero_le _, Nat.zero_le _⟩) hP (gD_va hD rfl) hS (fun r26 u27 H locs hw hP hS => ?_)
    have hP : va_P (dC, dI) vwCl (mw q cI u27) H := hP
    have hf := bd_eq hw hf
    exact e_mi C0 (hf.symm.trans hF) hP hS dX12_remove_14
noncomputable def pX12_set (m : MS) (a1 : Int32) (a2 : Int32) : Int32 × MS := lt (pX12_hold m) fun (u3 : MS) => bd (pX12_sets u3 a1 a2) fun (r5 : Int32) (u6 : MS) => bd (pX12_done u6 r5) fun (r8 : Int32) (u9 : MS) => (r8, u9)
def kX12_set (m : MS) (a1 : Int32) (a2 : Int32) : Prop := (kX12_hold m) ∧ (lt (pX12_hold m) fun (u3 : MS) => (kX12_sets u3 a1 a2) ∧ (bd (pX12_sets u3 a1 a2) fun (r5 : Int32) (u6 : MS) => kX12_done u6 r5))
abbrev rX12_set : Room := { frames := 3, cells := 0, slots := 0, locals := 65 }
set_option maxHeartbeats 4000000 in
set_option maxRecDepth 100000 in
theorem mX12_set (l : Launch) (dC : Nat → ClassId) (dI : Nat → Nat → Nat) (cI cB cO cL : ClassId) (q : Nat → Nat) (m : MS) (a1 : Int32) (a2 : Int32) (hI : gD (fun _ => True) (mAd q)) (hok : kX12_set m a1 a2) : Met l yX12_set wsX12_set rX12_set (gP (dC, dI) (tYS cI cB cO cL) (mw q cI m) [.ref (q 0), .int a1, .int a2]) (gQi (dC, dI) (fun m9 => mw q cI m9) (wA (mw q cI m)) (pX12_set m a1 a2)) 0 0 (wA (mw q cI m)) := by
  refine gMet (cc := cX12_set) (maxL := 3) (ret := some .int) [(0, .ref (q 0)), (1, .int a1), (2, .int a2)] (by decide) rfl rfl rfl ?_
  intro p e s mi below meth c C0 hK hP ls hl
  obtain ⟨hx, hb, hr, hml, hown, hts, hlocks⟩ := id C0
  have hown : s.vm.findClass RX12 = some mi.cls := hown
  have hS : va_S (wA (mw q cI m)) s.heap s.heap [] := va_S.rf
  have hD : gD (wA (mw q cI m)) (mAd q) := gD_wA (ws := mw q cI m) hI
  have hP : va_P (dC, dI) vwCl (mw q cI m) s.heap := hP
  obtain ⟨F, hF⟩ : ∃ F, F = pX12_set m a1 a2 := ⟨_, rfl⟩
  have hf := hF
  refine lv_aload_n hx hb dX12_set_0 rfl (lv_at hl 0 rfl) ?_
  obtain ⟨h1, hok⟩ := hok
  refine gms_v (va_runV (As := []) (rest := []) ⟨hx, hb, hml, hown, hts⟩ (mX12_hold l dC dI cI cB cO cL q m (gD_any hD) h1) (cwV 0 hts gX12_set_X12_hold rfl rfl rfl (by decide +kernel) ⟨Nat.le_of_ble_eq_true rfl, Nat.le_of_ble_eq_true rfl⟩) ⟨gP_blind, va_recv hK hP (ci := 9) (q0 := 0) rfl rfl, gP_ok hP hK⟩ rfl rfl hl.1 rfl (lv_room (Nat.le_of_ble_eq_true rfl)) dX12_set_1 ⟨Nat.zero_le _, Nat.zero_le _⟩) hP (gD_va hD rfl) hS (fun u3 H locs hw hP hS => ?_)
  have hP : va_P (dC, dI) vwCl (mw q cI u3) H := hP
  have hf := lt_eq hw hf
  have hok := lt_ok hw hok
  refine lv_aload_n hx hb dX12_set_4 rfl (lv_at hl 0 rfl) ?_
  refine lv_aload_n hx hb dX12_set_5 rfl (lv_at hl 0 rfl) ?_
  refine lv_iload_n hx hb dX12_set_6 rfl (lv_at hl 1 rfl) ?_
  refine lv_iload_n hx hb dX12_set_7 rfl (lv_at hl 2 rfl) ?_
  obtain ⟨h4, hok⟩ := hok
  refine gms_i (va_runV (As := [.int a1, .int a2]) (rest := [.ref (q 0)]) ⟨hx, hb, hml, hown, hts⟩ (mX12_sets l dC dI cI cB cO cL q u3 a1 a2 (gD_any hD) h4) (cwV 2 hts gX12_set_X12_sets rfl rfl rfl (by decide +kernel) ⟨Nat.le_of_ble_eq_true rfl, Nat.le_of_ble_eq_true rfl⟩) ⟨gP_blind, va_recv hK hP (ci := 9) (q0 := 0) rfl rfl, gP_ok hP hK⟩ rfl rfl hl.1 rfl (lv_room (Nat.le_of_ble_eq_true rfl)) dX12_set_8 ⟨Nat.zero_le _, Nat.zero_le _⟩) hP (gD_va hD rfl) hS (fun r5 u6 H locs hw hP hS => ?_)
  have hP : va_P (dC, dI) vwCl (mw q cI u6) H := hP
  have hf := bd_eq hw hf
  have hok := bd_ok hw hok
  have h7 : kX12_done u6 r5 := hok
  refine gms_i (va_runV (As := [.int r5]) (rest := []) ⟨hx, hb, hml, hown, hts⟩ (mX12_done l dC dI cI cB cO cL q u6 r5 (gD_any hD) h7) (cwV 1 hts gX12_set_X12_done rfl rfl rfl (by decide +kernel) ⟨Nat.le_of_ble_eq_true rfl, Nat.le_of_ble_eq_true rfl⟩) ⟨gP_blind, va_recv hK hP (ci := 9) (q0 := 0) rfl rfl, gP_ok hP hK⟩ rfl rfl hl.1 rfl (lv_room (Nat.le_of_ble_eq_true rfl)) dX12_set_11 ⟨Nat.zero_le _, Nat.zero_le _⟩) hP (gD_va hD rfl) hS (fun r8 u9 H locs hw hP hS => ?_)
  have hP : va_P (dC, dI) vwCl (mw q cI u9) H := hP
  have hf := bd_eq hw hf
  exact e_mi C0 (hf.symm.trans hF) hP hS dX12_set_14
noncomputable def pX12_setS (m : MS) (a1 : Int32) : Int32 × MS := if 0 ≤ a1 then (lt (pX12_hold m) fun (u4 : MS) => lt ((u4.2.2 0) 6) fun (x5 : Int32) => lt (msa u4 0 (upd (u4.2.2 0) 6 a1)) fun (m_6 : MS) => bd (pX12_ends m_6 x5) fun (r8 : Int32) (u9 : MS) => (r8, u9)) else (bd (pX12_fails m 1) fun (r10 : Int32) (u11 : MS) => (r10, u11))
def kX12_setS (m : MS) (a1 : Int32) : Prop := if 0 ≤ a1 then ((kX12_hold m) ∧ (lt (pX12_hold m) fun (u4 : MS) => lt ((u4.2.2 0) 6) fun (x5 : Int32) => lt (msa u4 0 (upd (u4.2.2 0) 6 a1)) fun (m_6 : MS) => kX12_ends m_6 x5)) else (True)
abbrev rX12_setS : Room := { frames := 2, cells := 0, slots := 0, locals := 43 }
set_option maxHeartbeats 4000000 in
set_option maxRecDepth 100000 in
theorem mX12_setS (l : Launch) (dC : Nat → ClassId) (dI : Nat → Nat → Nat) (cI cB cO cL : ClassId) (q : Nat → Nat) (m : MS) (a1 : Int32) (hI : gD (fun _ => True) (mAd q)) (hok : kX12_setS m a1) : Met l yX12_setS wsX12_setS rX12_setS (gP (dC, dI) (tYS cI cB cO cL) (mw q cI m) [.ref (q 0), .int a1]) (gQi (dC, dI) (fun m9 => mw q cI m9) (wA (mw q cI m)) (pX12_setS m a1)) 0 0 (wA (mw q cI m)) := by
  refine gMet (cc := cX12_setS) (maxL := 3) (ret := some .int) [(0, .ref (q 0)), (1, .int a1)] (by decide) rfl rfl rfl ?_
  intro p e s mi below meth c C0 hK hP ls hl
  obtain ⟨hx, hb, hr, hml, hown, hts, hlocks⟩ := id C0
  have hown : s.vm.findClass RX12 = some mi.cls := hown
  have hS : va_S (wA (mw q cI m)) s.heap s.heap [] := va_S.rf
  have hD : gD (wA (mw q cI m)) (mAd q) := gD_wA (ws := mw q cI m) hI
  have hP : va_P (dC, dI) vwCl (mw q cI m) s.heap := hP
  obtain ⟨F, hF⟩ : ∃ F, F = pX12_setS m a1 := ⟨_, rfl⟩
  have hf := hF
  have hin12 : ∀ w ∈ u_ws RX12 TX12 23, w ∈ wsX12_setS := by decide +kernel
  have fl7 := hts (.fieldLink RX12 7 "ClickBenchModel" "s" "[I") (by decide +kernel)
  refine lv_iload_n hx hb dX12_setS_0 rfl (lv_at hl 1 rfl) ?_
  refine lv_if_ge (tgt := 10) hx hb dX12_setS_1 (by decide) (fun c1 => ?_) (fun c1 => ?_)
  · have hf := it_eq c1 hf
    have hok := it_ok c1 hok
    refine lv_aload_n hx hb dX12_setS_10 rfl (lv_at hl 0 rfl) ?_
    obtain ⟨h2, hok⟩ := hok
    refine gms_v (va_runV (As := []) (rest := []) ⟨hx, hb, hml, hown, hts⟩ (mX12_hold l dC dI cI cB cO cL q m (gD_any hD) h2) (cwV 0 hts gX12_setS_X12_hold rfl rfl rfl (by decide +kernel) ⟨Nat.le_of_ble_eq_true rfl, Nat.le_of_ble_eq_true rfl⟩) ⟨gP_blind, va_recv hK hP (ci := 9) (q0 := 0) rfl rfl, gP_ok hP hK⟩ rfl rfl hl.1 rfl (lv_room (Nat.le_of_ble_eq_true rfl)) dX12_setS_11 ⟨Nat.zero_le _, Nat.zero_le _⟩) hP (gD_va hD rfl) hS (fun u4 H locs hw hP hS => ?_)
    have hP : va_P (dC, dI) vwCl (mw q cI u4) H := hP
    have hf := lt_eq hw hf
    have hok := lt_ok hw hok
    refine lv_aload_n hx hb dX12_setS_14 rfl (lv_at hl 0 rfl) ?_
    refine va_get (D := (dC, dI)) (ci := 9) (v := .ref (q 1)) (C := RX12) (T := TX12) (N := 23) hx hb hts hin12 hown hK hP 0 rfl rfl 0 (by decide) fl7 (fun _ h9 => h9) rfl dX12_setS_15 ?_
    refine lv_bipush (v := 6) hx hb dX12_setS_18 (by decide) ?_
    refine g_ialdK (D := (dC, dI)) (tys := (tYS cI cB cO cL)) (k := 6) hx hb hK hP 1 0 rfl rfl (by decide) (by decide) (by decide) dX12_setS_20 ?_
    refine lv_topi (fun x5 ex5 => ?_)
    have hf := lt_eq ex5 hf
    have hok := lt_ok ex5 hok
    refine lv_istore_n (lv' := [(2, .int x5), (0, .ref (q 0)), (1, .int a1)]) hx hb dX12_setS_21 rfl hl (by decide) rfl (fun ls hl => ?_)
    refine lv_aload_n hx hb dX12_setS_22 rfl (lv_at hl 1 rfl) ?_
    refine va_get (D := (dC, dI)) (ci := 9) (v := .ref (q 1)) (C := RX12) (T := TX12) (N := 23) hx hb hts hin12 hown hK hP 0 rfl rfl 0 (by decide) fl7 (fun _ h9 => h9) rfl dX12_setS_23 ?_
    refine lv_bipush (v := 6) hx hb dX12_setS_26 (by decide) ?_
    refine lv_iload_n hx hb dX12_setS_28 rfl (lv_at hl 2 rfl) ?_
    refine g_iastK (D := (dC, dI)) (tys := (tYS cI cB cO cL)) (k := 6) hx hb hK hP (gD_va hD rfl) hS 1 0 rfl rfl (by decide) (by decide) (by decide) dX12_setS_29 (fun H locs hP hS => ?_)
    obtain ⟨m_6, em_6⟩ : ∃ z9 : MS, z9 = msa u4 0 (upd (u4.2.2 0) 6 a1) := ⟨_, rfl⟩
    have hP : va_P (dC, dI) vwCl (mw q cI m_6) H := by rw [em_6]; exact hP
    have hf := lt_eq em_6 hf
    have hok := lt_ok em_6 hok
    refine lv_aload_n hx hb dX12_setS_30 rfl (lv_at hl 1 rfl) ?_
    refine lv_iload_n hx hb dX12_setS_31 rfl (lv_at hl 0 rfl) ?_
    have h7 : kX12_ends m_6 x5 := hok
    refine gms_i (va_runV (As := [.int x5]) (rest := []) ⟨hx, hb, hml, hown, hts⟩ (mX12_ends l dC dI cI cB cO cL q m_6 x5 (gD_any hD) h7) (cwV 1 hts gX12_setS_X12_ends rfl rfl rfl (by decide +kernel) ⟨Nat.le_of_ble_eq_true rfl, Nat.le_of_ble_eq_true rfl⟩) ⟨gP_blind, va_recv hK hP (ci := 9) (q0 := 0) rfl rfl, gP_ok hP hK⟩ rfl rfl hl.1 rfl (lv_room (Nat.le_of_ble_eq_true rfl)) dX12_setS_32 ⟨Nat.zero_le _, Nat.zero_le _⟩) hP (gD_va hD rfl) hS (fun r8 u9 H locs hw hP hS => ?_)
    have hP : va_P (dC, dI) vwCl (mw q cI u9) H := hP
    have hf := bd_eq hw hf
    exact e_mi C0 (hf.symm.trans hF) hP hS dX12_setS_35
  · have hf := ie_eq c1 hf
    refine lv_aload_n hx hb dX12_setS_4 rfl (lv_at hl 0 rfl) ?_
    refine lv_iconst (v := 1) hx hb dX12_setS_5 (by decide) ?_
    refine gms_i (va_runV (As := [.int 1]) (rest := []) ⟨hx, hb, hml, hown, hts⟩ (mX12_fails l dC dI cI cB cO cL q m 1 (gD_any hD) ) (cwV 1 hts gX12_setS_X12_fails rfl rfl rfl (by decide +kernel) ⟨Nat.le_of_ble_eq_true rfl, Nat.le_of_ble_eq_true rfl⟩) ⟨gP_blind, va_recv hK hP (ci := 9) (q0 := 0) rfl rfl, gP_ok hP hK⟩ rfl rfl hl.1 rfl (lv_room (Nat.le_of_ble_eq_true rfl)) dX12_setS_6 ⟨Nat.zero_le _, Nat.zero_le _⟩) hP (gD_va hD rfl) hS (fun r10 u11 H locs hw hP hS => ?_)
    have hP : va_P (dC, dI) vwCl (mw q cI u11) H := hP
    have hf := bd_eq hw hf
    exact e_mi C0 (hf.symm.trans hF) hP hS dX12_setS_9
noncomputable def pX12_click (m : MS) (a1 : Int32) (a2 : Int32) (a3 : Int32) : Int32 × MS := lt (pX12_hold m) fun (u3 : MS) => bd (pX12_clicks u3 a1 a2 a3) fun (r5 : Int32) (u6 : MS) => bd (pX12_done u6 r5) fun (r8 : Int32) (u9 : MS) => (r8, u9)
def kX12_click (m : MS) (a1 : Int32) (a2 : Int32) (a3 : Int32) : Prop := (kX12_hold m) ∧ (lt (pX12_hold m) fun (u3 : MS) => (kX12_clicks u3 a1 a2 a3) ∧ (bd (pX12_clicks u3 a1 a2 a3) fun (r5 : Int32) (u6 : MS) => kX12_done u6 r5))
abbrev rX12_click : Room := { frames := 6, cells := 0, slots := 0, locals := 158 }
set_option maxHeartbeats 4000000 in
set_option maxRecDepth 100000 in
theorem mX12_click (l : Launch) (dC : Nat → ClassId) (dI : Nat → Nat → Nat) (cI cB cO cL : ClassId) (q : Nat → Nat) (m : MS) (a1 : Int32) (a2 : Int32) (a3 : Int32) (hI : gD (fun _ => True) (mAd q)) (hok : kX12_click m a1 a2 a3) : Met l yX12_click wsX12_click rX12_click (gP (dC, dI) (tYS cI cB cO cL) (mw q cI m) [.ref (q 0), .int a1, .int a2, .int a3]) (gQi (dC, dI) (fun m9 => mw q cI m9) (wA (mw q cI m)) (pX12_click m a1 a2 a3)) 0 0 (wA (mw q cI m)) := by
  refine gMet (cc := cX12_click) (maxL := 4) (ret := some .int) [(0, .ref (q 0)), (1, .int a1), (2, .int a2), (3, .int a3)] (by decide) rfl rfl rfl ?_
  intro p e s mi below meth c C0 hK hP ls hl
  obtain ⟨hx, hb, hr, hml, hown, hts, hlocks⟩ := id C0
  have hown : s.vm.findClass RX12 = some mi.cls := hown
  have hS : va_S (wA (mw q cI m)) s.heap s.heap [] := va_S.rf
  have hD : gD (wA (mw q cI m)) (mAd q) := gD_wA (ws := mw q cI m) hI
  have hP : va_P (dC, dI) vwCl (mw q cI m) s.heap := hP
  obtain ⟨F, hF⟩ : ∃ F, F = pX12_click m a1 a2 a3 := ⟨_, rfl⟩
  have hf := hF
  refine lv_aload_n hx hb dX12_click_0 rfl (lv_at hl 0 rfl) ?_
  obtain ⟨h1, hok⟩ := hok
  refine gms_v (va_runV (As := []) (rest := []) ⟨hx, hb, hml, hown, hts⟩ (mX12_hold l dC dI cI cB cO cL q m (gD_any hD) h1) (cwV 0 hts gX12_click_X12_hold rfl rfl rfl (by decide +kernel) ⟨Nat.le_of_ble_eq_true rfl, Nat.le_of_ble_eq_true rfl⟩) ⟨gP_blind, va_recv hK hP (ci := 9) (q0 := 0) rfl rfl, gP_ok hP hK⟩ rfl rfl hl.1 rfl (lv_room (Nat.le_of_ble_eq_true rfl)) dX12_click_1 ⟨Nat.zero_le _, Nat.zero_le _⟩) hP (gD_va hD rfl) hS (fun u3 H locs hw hP hS => ?_)
  have hP : va_P (dC, dI) vwCl (mw q cI u3) H := hP
  have hf := lt_eq hw hf
  have hok := lt_ok hw hok
  refine lv_aload_n hx hb dX12_click_4 rfl (lv_at hl 0 rfl) ?_
  refine lv_aload_n hx hb dX12_click_5 rfl (lv_at hl 0 rfl) ?_
  refine lv_iload_n hx hb dX12_click_6 rfl (lv_at hl 1 rfl) ?_
  refine lv_iload_n hx hb dX12_click_7 rfl (lv_at hl 2 rfl) ?_
  refine lv_iload_n hx hb dX12_click_8 rfl (lv_at hl 3 rfl) ?_
  obtain ⟨h4, hok⟩ := hok
  refine gms_i (va_runV (As := [.int a1, .int a2, .int a3]) (rest := [.ref (q 0)]) ⟨hx, hb, hml, hown, hts⟩ (mX12_clicks l dC dI cI cB cO cL q u3 a1 a2 a3 (gD_any hD) h4) (cwV 3 hts gX12_click_X12_clicks rfl rfl rfl (by decide +kernel) ⟨Nat.le_of_ble_eq_true rfl, Nat.le_of_ble_eq_true rfl⟩) ⟨gP_blind, va_recv hK hP (ci := 9) (q0 := 0) rfl rfl, gP_ok hP hK⟩ rfl rfl hl.1 rfl (lv_room (Nat.le_of_ble_eq_true rfl)) dX12_click_9 ⟨Nat.zero_le _, Nat.zero_le _⟩) hP (gD_va hD rfl) hS (fun r5 u6 H locs hw hP hS => ?_)
  have hP : va_P (dC, dI) vwCl (mw q cI u6) H := hP
  have hf := bd_eq hw hf
  have hok := bd_ok hw hok
  have h7 : kX12_done u6 r5 := hok
  refine gms_i (va_runV (As := [.int r5]) (rest := []) ⟨hx, hb, hml, hown, hts⟩ (mX12_done l dC dI cI cB cO cL q u6 r5 (gD_any hD) h7) (cwV 1 hts gX12_click_X12_done rfl rfl rfl (by decide +kernel) ⟨Nat.le_of_ble_eq_true rfl, Nat.le_of_ble_eq_true rfl⟩) ⟨gP_blind, va_recv hK hP (ci := 9) (q0 := 0) rfl rfl, gP_ok hP hK⟩ rfl rfl hl.1 rfl (lv_room (Nat.le_of_ble_eq_true rfl)) dX12_click_12 ⟨Nat.zero_le _, Nat.zero_le _⟩) hP (gD_va hD rfl) hS (fun r8 u9 H locs hw hP hS => ?_)
  have hP : va_P (dC, dI) vwCl (mw q cI u9) H := hP
  have hf := bd_eq hw hf
  exact e_mi C0 (hf.symm.trans hF) hP hS dX12_click_15
noncomputable def pX12_calibrate (m : MS) (a1 : Int32) (a2 : Int32) (a3 : Int32) : Int32 × MS := lt (pX12_hold m) fun (u3 : MS) => bd (pX12_calibrates u3 a1 a2 a3) fun (r5 : Int32) (u6 : MS) => bd (pX12_done u6 r5) fun (r8 : Int32) (u9 : MS) => (r8, u9)
def kX12_calibrate (m : MS) (a1 : Int32) (a2 : Int32) (a3 : Int32) : Prop := (kX12_hold m) ∧ (lt (pX12_hold m) fun (u3 : MS) => (kX12_calibrates u3 a1 a2 a3) ∧ (bd (pX12_calibrates u3 a1 a2 a3) fun (r5 : Int32) (u6 : MS) => kX12_done u6 r5))
abbrev rX12_calibrate : Room := { frames := 6, cells := 0, slots := 0, locals := 161 }
set_option maxHeartbeats 4000000 in
set_option maxRecDepth 100000 in
theorem mX12_calibrate (l : Launch) (dC : Nat → ClassId) (dI : Nat → Nat → Nat) (cI cB cO cL : ClassId) (q : Nat → Nat) (m : MS) (a1 : Int32) (a2 : Int32) (a3 : Int32) (hI : gD (fun _ => True) (mAd q)) (hok : kX12_calibrate m a1 a2 a3) : Met l yX12_calibrate wsX12_calibrate rX12_calibrate (gP (dC, dI) (tYS cI cB cO cL) (mw q cI m) [.ref (q 0), .int a1, .int a2, .int a3]) (gQi (dC, dI) (fun m9 => mw q cI m9) (wA (mw q cI m)) (pX12_calibrate m a1 a2 a3)) 0 0 (wA (mw q cI m)) := by
  refine gMet (cc := cX12_calibrate) (maxL := 4) (ret := some .int) [(0, .ref (q 0)), (1, .int a1), (2, .int a2), (3, .int a3)] (by decide) rfl rfl rfl ?_
  intro p e s mi below meth c C0 hK hP ls hl
  obtain ⟨hx, hb, hr, hml, hown, hts, hlocks⟩ := id C0
  have hown : s.vm.findClass RX12 = some mi.cls := hown
  have hS : va_S (wA (mw q cI m)) s.heap s.heap [] := va_S.rf
  have hD : gD (wA (mw q cI m)) (mAd q) := gD_wA (ws := mw q cI m) hI
  have hP : va_P (dC, dI) vwCl (mw q cI m) s.heap := hP
  obtain ⟨F, hF⟩ : ∃ F, F = pX12_calibrate m a1 a2 a3 := ⟨_, rfl⟩
  have hf := hF
  refine lv_aload_n hx hb dX12_calibrate_0 rfl (lv_at hl 0 rfl) ?_
  obtain ⟨h1, hok⟩ := hok
  refine gms_v (va_runV (As := []) (rest := []) ⟨hx, hb, hml, hown, hts⟩ (mX12_hold l dC dI cI cB cO cL q m (gD_any hD) h1) (cwV 0 hts gX12_calibrate_X12_hold rfl rfl rfl (by decide +kernel) ⟨Nat.le_of_ble_eq_true rfl, Nat.le_of_ble_eq_true rfl⟩) ⟨gP_blind, va_recv hK hP (ci := 9) (q0 := 0) rfl rfl, gP_ok hP hK⟩ rfl rfl hl.1 rfl (lv_room (Nat.le_of_ble_eq_true rfl)) dX12_calibrate_1 ⟨Nat.zero_le _, Nat.zero_le _⟩) hP (gD_va hD rfl) hS (fun u3 H locs hw hP hS => ?_)
  have hP : va_P (dC, dI) vwCl (mw q cI u3) H := hP
  have hf := lt_eq hw hf
  have hok := lt_ok hw hok
  refine lv_aload_n hx hb dX12_calibrate_4 rfl (lv_at hl 0 rfl) ?_
  refine lv_aload_n hx hb dX12_calibrate_5 rfl (lv_at hl 0 rfl) ?_
  refine lv_iload_n hx hb dX12_calibrate_6 rfl (lv_at hl 1 rfl) ?_
  refine lv_iload_n hx hb dX12_calibrate_7 rfl (lv_at hl 2 rfl) ?_
  refine lv_iload_n hx hb dX12_calibrate_8 rfl (lv_at hl 3 rfl) ?_
  obtain ⟨h4, hok⟩ := hok
  refine gms_i (va_runV (As := [.int a1, .int a2, .int a3]) (rest := [.ref (q 0)]) ⟨hx, hb, hml, hown, hts⟩ (mX12_calibrates l dC dI cI cB cO cL q u3 a1 a2 a3 (gD_any hD) h4) (cwV 3 hts gX12_calibrate_X12_calibrates rfl rfl rfl (by decide +kernel) ⟨Nat.le_of_ble_eq_true rfl, Nat.le_of_ble_eq_true rfl⟩) ⟨gP_blind, va_recv hK hP (ci := 9) (q0 := 0) rfl rfl, gP_ok hP hK⟩ rfl rfl hl.1 rfl (lv_room (Nat.le_of_ble_eq_true rfl)) dX12_calibrate_9 ⟨Nat.zero_le _, Nat.zero_le _⟩) hP (gD_va hD rfl) hS (fun r5 u6 H locs hw hP hS => ?_)
  have hP : va_P (dC, dI) vwCl (mw q cI u6) H := hP
  have hf := bd_eq hw hf
  have hok := bd_ok hw hok
  have h7 : kX12_done u6 r5 := hok
  refine gms_i (va_runV (As := [.int r5]) (rest := []) ⟨hx, hb, hml, hown, hts⟩ (mX12_done l dC dI cI cB cO cL q u6 r5 (gD_any hD) h7) (cwV 1 hts gX12_calibrate_X12_done rfl rfl rfl (by decide +kernel) ⟨Nat.le_of_ble_eq_true rfl, Nat.le_of_ble_eq_true rfl⟩) ⟨gP_blind, va_recv hK hP (ci := 9) (q0 := 0) rfl rfl, gP_ok hP hK⟩ rfl rfl hl.1 rfl (lv_room (Nat.le_of_ble_eq_true rfl)) dX12_calibrate_12 ⟨Nat.zero_le _, Nat.zero_le _⟩) hP (gD_va hD rfl) hS (fun r8 u9 H locs hw hP hS => ?_)
  have hP : va_P (dC, dI) vwCl (mw q cI u9) H := hP
  have hf := bd_eq hw hf
  exact e_mi C0 (hf.symm.trans hF) hP hS dX12_calibrate_15
noncomputable def pX12_noteOf (m : MS) (a1 : Int32) : Int32 := if (pX12_of m a1 4) = 1 then (pX12_of m a1 5) else ((-1000000000))
def kX12_noteOf (m : MS) (a1 : Int32) : Prop := (kX12_of m a1 4) ∧ (if (pX12_of m a1 4) = 1 then (kX12_of m a1 5) else (True))
abbrev rX12_noteOf : Room := { frames := 1, cells := 0, slots := 0, locals := 22 }
set_option maxHeartbeats 4000000 in
set_option maxRecDepth 100000 in
theorem mX12_noteOf (l : Launch) (dC : Nat → ClassId) (dI : Nat → Nat → Nat) (cI cB cO cL : ClassId) (q : Nat → Nat) (m : MS) (a1 : Int32) (hok : kX12_noteOf m a1) : Met l yX12_noteOf wsX12_noteOf rX12_noteOf (gP (dC, dI) (tYS cI cB cO cL) (mw q cI m) [.ref (q 0), .int a1]) (gRi (pX12_noteOf m a1)) 0 0 (fun _ => False) := by
  refine gMet (cc := cX12_noteOf) (maxL := 2) (ret := some .int) [(0, .ref (q 0)), (1, .int a1)] (by decide) rfl rfl rfl ?_
  intro p e s mi below meth c C0 hK hP ls hl
  obtain ⟨hx, hb, hr, hml, hown, hts, hlocks⟩ := id C0
  have hown : s.vm.findClass RX12 = some mi.cls := hown
  obtain ⟨F, hF⟩ : ∃ F, F = pX12_noteOf m a1 := ⟨_, rfl⟩
  have hf := hF
  have cn71 := hts (.constant RX12 71 (-1000000000)) (by decide +kernel)
  refine lv_aload_n hx hb dX12_noteOf_0 rfl (lv_at hl 0 rfl) ?_
  refine lv_iload_n hx hb dX12_noteOf_1 rfl (lv_at hl 1 rfl) ?_
  refine lv_iconst (v := 4) hx hb dX12_noteOf_2 (by decide) ?_
  obtain ⟨h1, hok⟩ := hok
  refine gro_i (va_runV (As := [.int a1, .int 4]) (rest := []) ⟨hx, hb, hml, hown, hts⟩ (mX12_of l dC dI cI cB cO cL q m a1 4  h1) (cwV 2 hts gX12_noteOf_X12_of rfl rfl rfl (by decide +kernel) ⟨Nat.le_of_ble_eq_true rfl, Nat.le_of_ble_eq_true rfl⟩) ⟨gP_blind, va_recv hK hP (ci := 9) (q0 := 0) rfl rfl, gP_ok hP hK⟩ rfl rfl hl.1 rfl (lv_room (Nat.le_of_ble_eq_true rfl)) dX12_noteOf_3 ⟨Nat.zero_le _, Nat.zero_le _⟩) ?_
  refine lv_iconst (v := 1) hx hb dX12_noteOf_6 (by decide) ?_
  refine lv_icmp_ne (tgt := 19) hx hb dX12_noteOf_7 (by decide) (fun c2 => ?_) (fun c2 => ?_)
  · have hf := ie_eq c2 hf
    refine lv_ldc (v := (-1000000000)) hx hb hown cn71 dX12_noteOf_19 ?_
    exact e_ri C0 (hf.symm.trans hF) dX12_noteOf_21
  · have hf := it_eq c2 hf
    have hok := it_ok c2 hok
    refine lv_aload_n hx hb dX12_noteOf_10 rfl (lv_at hl 0 rfl) ?_
    refine lv_iload_n hx hb dX12_noteOf_11 rfl (lv_at hl 1 rfl) ?_
    refine lv_iconst (v := 5) hx hb dX12_noteOf_12 (by decide) ?_
    have h3 : kX12_of m a1 5 := hok
    refine gro_i (va_runV (As := [.int a1, .int 5]) (rest := []) ⟨hx, hb, hml, hown, hts⟩ (mX12_of l dC dI cI cB cO cL q m a1 5  h3) (cwV 2 hts gX12_noteOf_X12_of rfl rfl rfl (by decide +kernel) ⟨Nat.le_of_ble_eq_true rfl, Nat.le_of_ble_eq_true rfl⟩) ⟨gP_blind, va_recv hK hP (ci := 9) (q0 := 0) rfl rfl, gP_ok hP hK⟩ rfl rfl hl.1 rfl (lv_room (Nat.le_of_ble_eq_true rfl)) dX12_noteOf_13 ⟨Nat.zero_le _, Nat.zero_le _⟩) ?_
    refine lv_goto (tgt := 21) hx hb dX12_noteOf_16 (by decide) ?_
    exact e_ri C0 (hf.symm.trans hF) dX12_noteOf_21
noncomputable def pX12_note (m : MS) (a1 : Int32) : Int32 × MS := if (pX12_isMicrophone m a1) = true then (bd (pX12_tells m (pX12_noteOf m a1)) fun (r5 : Int32) (u6 : MS) => (r5, u6)) else (bd (pX12_fails m 1) fun (r2 : Int32) (u3 : MS) => (r2, u3))
def kX12_note (m : MS) (a1 : Int32) : Prop := if (pX12_isMicrophone m a1) = true then (kX12_noteOf m a1) else (True)
abbrev rX12_note : Room := { frames := 2, cells := 0, slots := 0, locals := 43 }
set_option maxHeartbeats 4000000 in
set_option maxRecDepth 100000 in
theorem mX12_note (l : Launch) (dC : Nat → ClassId) (dI : Nat → Nat → Nat) (cI cB cO cL : ClassId) (q : Nat → Nat) (m : MS) (a1 : Int32) (hI : gD (fun _ => True) (mAd q)) (hok : kX12_note m a1) : Met l yX12_note wsX12_note rX12_note (gP (dC, dI) (tYS cI cB cO cL) (mw q cI m) [.ref (q 0), .int a1]) (gQi (dC, dI) (fun m9 => mw q cI m9) (wA (mw q cI m)) (pX12_note m a1)) 0 0 (wA (mw q cI m)) := by
  refine gMet (cc := cX12_note) (maxL := 2) (ret := some .int) [(0, .ref (q 0)), (1, .int a1)] (by decide) rfl rfl rfl ?_
  intro p e s mi below meth c C0 hK hP ls hl
  obtain ⟨hx, hb, hr, hml, hown, hts, hlocks⟩ := id C0
  have hown : s.vm.findClass RX12 = some mi.cls := hown
  have hS : va_S (wA (mw q cI m)) s.heap s.heap [] := va_S.rf
  have hD : gD (wA (mw q cI m)) (mAd q) := gD_wA (ws := mw q cI m) hI
  have hP : va_P (dC, dI) vwCl (mw q cI m) s.heap := hP
  obtain ⟨F, hF⟩ : ∃ F, F = pX12_note m a1 := ⟨_, rfl⟩
  have hf := hF
  refine lv_aload_n hx hb dX12_note_0 rfl (lv_at hl 0 rfl) ?_
  refine lv_iload_n hx hb dX12_note_1 rfl (lv_at hl 1 rfl) ?_
  refine gro_i (va_runV (As := [.int a1]) (rest := []) ⟨hx, hb, hml, hown, hts⟩ (mX12_isMicrophone l dC dI cI cB cO cL q m a1  ) (cwV 1 hts gX12_note_X12_isMicrophone rfl rfl rfl (by decide +kernel) ⟨Nat.le_of_ble_eq_true rfl, Nat.le_of_ble_eq_true rfl⟩) ⟨gP_blind, va_recv hK hP (ci := 9) (q0 := 0) rfl rfl, gP_ok hP hK⟩ rfl rfl hl.1 rfl (lv_room (Nat.le_of_ble_eq_true rfl)) dX12_note_2 ⟨Nat.zero_le _, Nat.zero_le _⟩) ?_
  refine lv_if_eq (tgt := 20) hx hb dX12_note_5 (by decide) (fun c1 => ?_) (fun c1 => ?_)
  · have c1 := bz_f c1
    have hf := ie_eq c1 hf
    refine lv_aload_n hx hb dX12_note_20 rfl (lv_at hl 0 rfl) ?_
    refine lv_iconst (v := 1) hx hb dX12_note_21 (by decide) ?_
    refine gms_i (va_runV (As := [.int 1]) (rest := []) ⟨hx, hb, hml, hown, hts⟩ (mX12_fails l dC dI cI cB cO cL q m 1 (gD_any hD) ) (cwV 1 hts gX12_note_X12_fails rfl rfl rfl (by decide +kernel) ⟨Nat.le_of_ble_eq_true rfl, Nat.le_of_ble_eq_true rfl⟩) ⟨gP_blind, va_recv hK hP (ci := 9) (q0 := 0) rfl rfl, gP_ok hP hK⟩ rfl rfl hl.1 rfl (lv_room (Nat.le_of_ble_eq_true rfl)) dX12_note_22 ⟨Nat.zero_le _, Nat.zero_le _⟩) hP (gD_va hD rfl) hS (fun r2 u3 H locs hw hP hS => ?_)
    have hP : va_P (dC, dI) vwCl (mw q cI u3) H := hP
    have hf := bd_eq hw hf
    exact e_mi C0 (hf.symm.trans hF) hP hS dX12_note_25
  · have c1 := bz_t c1
    have hf := it_eq c1 hf
    have hok := it_ok c1 hok
    refine lv_aload_n hx hb dX12_note_8 rfl (lv_at hl 0 rfl) ?_
    refine lv_aload_n hx hb dX12_note_9 rfl (lv_at hl 0 rfl) ?_
    refine lv_iload_n hx hb dX12_note_10 rfl (lv_at hl 1 rfl) ?_
    have h4 : kX12_noteOf m a1 := hok
    refine gro_i (va_runV (As := [.int a1]) (rest := [.ref (q 0)]) ⟨hx, hb, hml, hown, hts⟩ (mX12_noteOf l dC dI cI cB cO cL q m a1  h4) (cwV 1 hts gX12_note_X12_noteOf rfl rfl rfl (by decide +kernel) ⟨Nat.le_of_ble_eq_true rfl, Nat.le_of_ble_eq_true rfl⟩) ⟨gP_blind, va_recv hK hP (ci := 9) (q0 := 0) rfl rfl, gP_ok hP hK⟩ rfl rfl hl.1 rfl (lv_room (Nat.le_of_ble_eq_true rfl)) dX12_note_11 ⟨Nat.zero_le _, Nat.zero_le _⟩) ?_
    refine gms_i (va_runV (As := [.int (pX12_noteOf m a1)]) (rest := []) ⟨hx, hb, hml, hown, hts⟩ (mX12_tells l dC dI cI cB cO cL q m (pX12_noteOf m a1) (gD_any hD) ) (cwV 1 hts gX12_note_X12_tells rfl rfl rfl (by decide +kernel) ⟨Nat.le_of_ble_eq_true rfl, Nat.le_of_ble_eq_true rfl⟩) ⟨gP_blind, va_recv hK hP (ci := 9) (q0 := 0) rfl rfl, gP_ok hP hK⟩ rfl rfl hl.1 rfl (lv_room (Nat.le_of_ble_eq_true rfl)) dX12_note_14 ⟨Nat.zero_le _, Nat.zero_le _⟩) hP (gD_va hD rfl) hS (fun r5 u6 H locs hw hP hS => ?_)
    have hP : va_P (dC, dI) vwCl (mw q cI u6) H := hP
    have hf := bd_eq hw hf
    refine lv_goto (tgt := 25) hx hb dX12_note_17 (by decide) ?_
    exact e_mi C0 (hf.symm.trans hF) hP hS dX12_note_25
noncomputable def pX12_heardOf (m : MS) (a1 : Int32) (a2 : Int32) : Int32 := if (pX12_of m a1 4) = 1 then (pX12_of m a1 (6 + a2)) else ((-1000000000))
def kX12_heardOf (m : MS) (a1 : Int32) (a2 : Int32) : Prop := (kX12_of m a1 4) ∧ (if (pX12_of m a1 4) = 1 then (kX12_of m a1 (6 + a2)) else (True))
abbrev rX12_heardOf : Room := { frames := 1, cells := 0, slots := 0, locals := 22 }
set_option maxHeartbeats 4000000 in
set_option maxRecDepth 100000 in
theorem mX12_heardOf (l : Launch) (dC : Nat → ClassId) (dI : Nat → Nat → Nat) (cI cB cO cL : ClassId) (q : Nat → Nat) (m : MS) (a1 : Int32) (a2 : Int32) (hok : kX12_heardOf m a1 a2) : Met l yX12_heardOf wsX12_heardOf rX12_heardOf (gP (dC, dI) (tYS cI cB cO cL) (mw q cI m) [.ref (q 0), .int a1, .int a2]) (gRi (pX12_heardOf m a1 a2)) 0 0 (fun _ => False) := by
  refine gMet (cc := cX12_heardOf) (maxL := 3) (ret := some .int) [(0, .ref (q 0)), (1, .int a1), (2, .int a2)] (by decide) rfl rfl rfl ?_
  intro p e s mi below meth c C0 hK hP ls hl
  obtain ⟨hx, hb, hr, hml, hown, hts, hlocks⟩ := id C0
  have hown : s.vm.findClass RX12 = some mi.cls := hown
  obtain ⟨F, hF⟩ : ∃ F, F = pX12_heardOf m a1 a2 := ⟨_, rfl⟩
  have hf := hF
  have cn71 := hts (.constant RX12 71 (-1000000000)) (by decide +kernel)
  refine lv_aload_n hx hb dX12_heardOf_0 rfl (lv_at hl 0 rfl) ?_
  refine lv_iload_n hx hb dX12_heardOf_1 rfl (lv_at hl 1 rfl) ?_
  refine lv_iconst (v := 4) hx hb dX12_heardOf_2 (by decide) ?_
  obtain ⟨h1, hok⟩ := hok
  refine gro_i (va_runV (As := [.int a1, .int 4]) (rest := []) ⟨hx, hb, hml, hown, hts⟩ (mX12_of l dC dI cI cB cO cL q m a1 4  h1) (cwV 2 hts gX12_heardOf_X12_of rfl rfl rfl (by decide +kernel) ⟨Nat.le_of_ble_eq_true rfl, Nat.le_of_ble_eq_true rfl⟩) ⟨gP_blind, va_recv hK hP (ci := 9) (q0 := 0) rfl rfl, gP_ok hP hK⟩ rfl rfl hl.1 rfl (lv_room (Nat.le_of_ble_eq_true rfl)) dX12_heardOf_3 ⟨Nat.zero_le _, Nat.zero_le _⟩) ?_
  refine lv_iconst (v := 1) hx hb dX12_heardOf_6 (by decide) ?_
  refine lv_icmp_ne (tgt := 22) hx hb dX12_heardOf_7 (by decide) (fun c2 => ?_) (fun c2 => ?_)
  · have hf := ie_eq c2 hf
    refine lv_ldc (v := (-1000000000)) hx hb hown cn71 dX12_heardOf_22 ?_
    exact e_ri C0 (hf.symm.trans hF) dX12_heardOf_24
  · have hf := it_eq c2 hf
    have hok := it_ok c2 hok
    refine lv_aload_n hx hb dX12_heardOf_10 rfl (lv_at hl 0 rfl) ?_
    refine lv_iload_n hx hb dX12_heardOf_11 rfl (lv_at hl 1 rfl) ?_
    refine lv_bipush (v := 6) hx hb dX12_heardOf_12 (by decide) ?_
    refine lv_iload_n hx hb dX12_heardOf_14 rfl (lv_at hl 2 rfl) ?_
    refine lv_iadd hx hb dX12_heardOf_15 ?_
    have h3 : kX12_of m a1 (6 + a2) := hok
    refine gro_i (va_runV (As := [.int a1, .int (6 + a2)]) (rest := []) ⟨hx, hb, hml, hown, hts⟩ (mX12_of l dC dI cI cB cO cL q m a1 (6 + a2)  h3) (cwV 2 hts gX12_heardOf_X12_of rfl rfl rfl (by decide +kernel) ⟨Nat.le_of_ble_eq_true rfl, Nat.le_of_ble_eq_true rfl⟩) ⟨gP_blind, va_recv hK hP (ci := 9) (q0 := 0) rfl rfl, gP_ok hP hK⟩ rfl rfl hl.1 rfl (lv_room (Nat.le_of_ble_eq_true rfl)) dX12_heardOf_16 ⟨Nat.zero_le _, Nat.zero_le _⟩) ?_
    refine lv_goto (tgt := 24) hx hb dX12_heardOf_19 (by decide) ?_
    exact e_ri C0 (hf.symm.trans hF) dX12_heardOf_24
noncomputable def pX12_heard (m : MS) (a1 : Int32) (a2 : Int32) : Int32 × MS := if (pX12_isMicrophone m a1) = true then (if (pX12_in a2 0 3) = true then (bd (pX12_tells m (pX12_heardOf m a1 a2)) fun (r6 : Int32) (u7 : MS) => (r6, u7)) else (bd (pX12_fails m 2) fun (r3 : Int32) (u4 : MS) => (r3, u4))) else (bd (pX12_fails m 1) fun (r8 : Int32) (u9 : MS) => (r8, u9))
def kX12_heard (m : MS) (a1 : Int32) (a2 : Int32) : Prop := if (pX12_isMicrophone m a1) = true then (if (pX12_in a2 0 3) = true then (kX12_heardOf m a1 a2) else (True)) else (True)
abbrev rX12_heard : Room := { frames := 2, cells := 0, slots := 0, locals := 44 }
set_option maxHeartbeats 4000000 in
set_option maxRecDepth 100000 in
theorem mX12_heard (l : Launch) (dC : Nat → ClassId) (dI : Nat → Nat → Nat) (cI cB cO cL : ClassId) (q : Nat → Nat) (m : MS) (a1 : Int32) (a2 : Int32) (hI : gD (fun _ => True) (mAd q)) (hok : kX12_heard m a1 a2) : Met l yX12_heard wsX12_heard rX12_heard (gP (dC, dI) (tYS cI cB cO cL) (mw q cI m) [.ref (q 0), .int a1, .int a2]) (gQi (dC, dI) (fun m9 => mw q cI m9) (wA (mw q cI m)) (pX12_heard m a1 a2)) 0 0 (wA (mw q cI m)) := by
  refine gMet (cc := cX12_heard) (maxL := 3) (ret := some .int) [(0, .ref (q 0)), (1, .int a1), (2, .int a2)] (by decide) rfl rfl rfl ?_
  intro p e s mi below meth c C0 hK hP ls hl
  obtain ⟨hx, hb, hr, hml, hown, hts, hlocks⟩ := id C0
  have hown : s.vm.findClass RX12 = some mi.cls := hown
  have hS : va_S (wA (mw q cI m)) s.heap s.heap [] := va_S.rf
  have hD : gD (wA (mw q cI m)) (mAd q) := gD_wA (ws := mw q cI m) hI
  have hP : va_P (dC, dI) vwCl (mw q cI m) s.heap := hP
  obtain ⟨F, hF⟩ : ∃ F, F = pX12_heard m a1 a2 := ⟨_, rfl⟩
  have hf := hF
  refine lv_aload_n hx hb dX12_heard_0 rfl (lv_at hl 0 rfl) ?_
  refine lv_iload_n hx hb dX12_heard_1 rfl (lv_at hl 1 rfl) ?_
  refine gro_i (va_runV (As := [.int a1]) (rest := []) ⟨hx, hb, hml, hown, hts⟩ (mX12_isMicrophone l dC dI cI cB cO cL q m a1  ) (cwV 1 hts gX12_heard_X12_isMicrophone rfl rfl rfl (by decide +kernel) ⟨Nat.le_of_ble_eq_true rfl, Nat.le_of_ble_eq_true rfl⟩) ⟨gP_blind, va_recv hK hP (ci := 9) (q0 := 0) rfl rfl, gP_ok hP hK⟩ rfl rfl hl.1 rfl (lv_room (Nat.le_of_ble_eq_true rfl)) dX12_heard_2 ⟨Nat.zero_le _, Nat.zero_le _⟩) ?_
  refine lv_if_ne (tgt := 14) hx hb dX12_heard_5 (by decide) (fun c1 => ?_) (fun c1 => ?_)
  · have c1 := bz_t c1
    have hf := it_eq c1 hf
    have hok := it_ok c1 hok
    refine lv_iload_n hx hb dX12_heard_14 rfl (lv_at hl 2 rfl) ?_
    refine lv_iconst (v := 0) hx hb dX12_heard_15 (by decide) ?_
    refine lv_iconst (v := 3) hx hb dX12_heard_16 (by decide) ?_
    refine gro_i (va_runS (As := [.int a2, .int 0, .int 3]) (rest := []) ⟨hx, hb, hml, hown, hts⟩ (mX12_in l dC dI cI cB cO cL  a2 0 3  ) (va_cwS 3 hts gX12_heard_X12_in rfl rfl rfl (by decide +kernel) ⟨Nat.le_of_ble_eq_true rfl, Nat.le_of_ble_eq_true rfl⟩) ⟨gP_blind, gP_ok va_P_nil hK⟩ rfl rfl hl.1 rfl (lv_room (Nat.le_of_ble_eq_true rfl)) dX12_heard_17 ⟨Nat.zero_le _, Nat.zero_le _⟩) ?_
    refine lv_if_eq (tgt := 36) hx hb dX12_heard_20 (by decide) (fun c2 => ?_) (fun c2 => ?_)
    · have c2 := bz_f c2
      have hf := ie_eq c2 hf
      refine lv_aload_n hx hb dX12_heard_36 rfl (lv_at hl 0 rfl) ?_
      refine lv_iconst (v := 2) hx hb dX12_heard_37 (by decide) ?_
      refine gms_i (va_runV (As := [.int 2]) (rest := []) ⟨hx, hb, hml, hown, hts⟩ (mX12_fails l dC dI cI cB cO cL q m 2 (gD_any hD) ) (cwV 1 hts gX12_heard_X12_fails rfl rfl rfl (by decide +kernel) ⟨Nat.le_of_ble_eq_true rfl, Nat.le_of_ble_eq_true rfl⟩) ⟨gP_blind, va_recv hK hP (ci := 9) (q0 := 0) rfl rfl, gP_ok hP hK⟩ rfl rfl hl.1 rfl (lv_room (Nat.le_of_ble_eq_true rfl)) dX12_heard_38 ⟨Nat.zero_le _, Nat.zero_le _⟩) hP (gD_va hD rfl) hS (fun r3 u4 H locs hw hP hS => ?_)
      have hP : va_P (dC, dI) vwCl (mw q cI u4) H := hP
      have hf := bd_eq hw hf
      exact e_mi C0 (hf.symm.trans hF) hP hS dX12_heard_41
    · have c2 := bz_t c2
      have hf := it_eq c2 hf
      have hok := it_ok c2 hok
      refine lv_aload_n hx hb dX12_heard_23 rfl (lv_at hl 0 rfl) ?_
      refine lv_aload_n hx hb dX12_heard_24 rfl (lv_at hl 0 rfl) ?_
      refine lv_iload_n hx hb dX12_heard_25 rfl (lv_at hl 1 rfl) ?_
      refine lv_iload_n hx hb dX12_heard_26 rfl (lv_at hl 2 rfl) ?_
      have h5 : kX12_heardOf m a1 a2 := hok
      refine gro_i (va_runV (As := [.int a1, .int a2]) (rest := [.ref (q 0)]) ⟨hx, hb, hml, hown, hts⟩ (mX12_heardOf l dC dI cI cB cO cL q m a1 a2  h5) (cwV 2 hts gX12_heard_X12_heardOf rfl rfl rfl (by decide +kernel) ⟨Nat.le_of_ble_eq_true rfl, Nat.le_of_ble_eq_true rfl⟩) ⟨gP_blind, va_recv hK hP (ci := 9) (q0 := 0) rfl rfl, gP_ok hP hK⟩ rfl rfl hl.1 rfl (lv_room (Nat.le_of_ble_eq_true rfl)) dX12_heard_27 ⟨Nat.zero_le _, Nat.zero_le _⟩) ?_
      refine gms_i (va_runV (As := [.int (pX12_heardOf m a1 a2)]) (rest := []) ⟨hx, hb, hml, hown, hts⟩ (mX12_tells l dC dI cI cB cO cL q m (pX12_heardOf m a1 a2) (gD_any hD) ) (cwV 1 hts gX12_heard_X12_tells rfl rfl rfl (by decide +kernel) ⟨Nat.le_of_ble_eq_true rfl, Nat.le_of_ble_eq_true rfl⟩) ⟨gP_blind, va_recv hK hP (ci := 9) (q0 := 0) rfl rfl, gP_ok hP hK⟩ rfl rfl hl.1 rfl (lv_room (Nat.le_of_ble_eq_true rfl)) dX12_heard_30 ⟨Nat.zero_le _, Nat.zero_le _⟩) hP (gD_va hD rfl) hS (fun r6 u7 H locs hw hP hS => ?_)
      have hP : va_P (dC, dI) vwCl (mw q cI u7) H := hP
      have hf := bd_eq hw hf
      refine lv_goto (tgt := 41) hx hb dX12_heard_33 (by decide) ?_
      exact e_mi C0 (hf.symm.trans hF) hP hS dX12_heard_41
  · have c1 := bz_f c1
    have hf := ie_eq c1 hf
    refine lv_aload_n hx hb dX12_heard_8 rfl (lv_at hl 0 rfl) ?_
    refine lv_iconst (v := 1) hx hb dX12_heard_9 (by decide) ?_
    refine gms_i (va_runV (As := [.int 1]) (rest := []) ⟨hx, hb, hml, hown, hts⟩ (mX12_fails l dC dI cI cB cO cL q m 1 (gD_any hD) ) (cwV 1 hts gX12_heard_X12_fails rfl rfl rfl (by decide +kernel) ⟨Nat.le_of_ble_eq_true rfl, Nat.le_of_ble_eq_true rfl⟩) ⟨gP_blind, va_recv hK hP (ci := 9) (q0 := 0) rfl rfl, gP_ok hP hK⟩ rfl rfl hl.1 rfl (lv_room (Nat.le_of_ble_eq_true rfl)) dX12_heard_10 ⟨Nat.zero_le _, Nat.zero_le _⟩) hP (gD_va hD rfl) hS (fun r8 u9 H locs hw hP hS => ?_)
    have hP : va_P (dC, dI) vwCl (mw q cI u9) H := hP
    have hf := bd_eq hw hf
    exact e_mi C0 (hf.symm.trans hF) hP hS dX12_heard_13
noncomputable def pX12_arrivals_L28   (m_28 : MS) : Int32 × MS := bd (pX12_fails m_28 2) fun (r3 : Int32) (u4 : MS) => (r3, u4)
noncomputable def pX12_arrivals (m : MS) (a1 : Int32) (a2 : Int32) (a3 : Int32) : Int32 × MS := if (pX12_isMicrophone m a3) = true then (if (pX12_isPlace a1) = true then (if (pX12_isPlace a2) = true then (lt (pX12_lists m a1 a2 a3) fun (u8 : MS) => bd (pX12_tells u8 (u8.1 4)) fun (r9 : Int32) (u10 : MS) => (r9, u10)) else (pX12_arrivals_L28 m)) else (pX12_arrivals_L28 m)) else (bd (pX12_fails m 1) fun (r11 : Int32) (u12 : MS) => (r11, u12))
def kX12_arrivals (m : MS) (a1 : Int32) (a2 : Int32) (a3 : Int32) : Prop := if (pX12_isMicrophone m a3) = true then (if (pX12_isPlace a1) = true then (if (pX12_isPlace a2) = true then (kX12_lists m a1 a2 a3) else (True)) else (True)) else (True)
abbrev rX12_arrivals : Room := { frames := 4, cells := 0, slots := 0, locals := 101 }
set_option maxHeartbeats 4000000 in
set_option maxRecDepth 100000 in
theorem mX12_arrivals (l : Launch) (dC : Nat → ClassId) (dI : Nat → Nat → Nat) (cI cB cO cL : ClassId) (q : Nat → Nat) (m : MS) (a1 : Int32) (a2 : Int32) (a3 : Int32) (hI : gD (fun _ => True) (mAd q)) (hok : kX12_arrivals m a1 a2 a3) : Met l yX12_arrivals wsX12_arrivals rX12_arrivals (gP (dC, dI) (tYS cI cB cO cL) (mw q cI m) [.ref (q 0), .int a1, .int a2, .int a3]) (gQi (dC, dI) (fun m9 => mw q cI m9) (wA (mw q cI m)) (pX12_arrivals m a1 a2 a3)) 0 0 (wA (mw q cI m)) := by
  refine gMet (cc := cX12_arrivals) (maxL := 4) (ret := some .int) [(0, .ref (q 0)), (1, .int a1), (2, .int a2), (3, .int a3)] (by decide) rfl rfl rfl ?_
  intro p e s mi below meth c C0 hK hP ls hl
  obtain ⟨hx, hb, hr, hml, hown, hts, hlocks⟩ := id C0
  have hown : s.vm.findClass RX12 = some mi.cls := hown
  have hS : va_S (wA (mw q cI m)) s.heap s.heap [] := va_S.rf
  have hD : gD (wA (mw q cI m)) (mAd q) := gD_wA (ws := mw q cI m) hI
  have hP : va_P (dC, dI) vwCl (mw q cI m) s.heap := hP
  obtain ⟨F, hF⟩ : ∃ F, F = pX12_arrivals m a1 a2 a3 := ⟨_, rfl⟩
  have hf := hF
  have hin12 : ∀ w ∈ u_ws RX12 TX12 23, w ∈ wsX12_arrivals := by decide +kernel
  have fl72 := hts (.fieldLink RX12 72 "ClickBenchModel" "listed" "I") (by decide +kernel)
  have J_28 : ∀ (m_28 : MS) (H : Heap) (locs : List Loc), va_P (dC, dI) vwCl (mw q cI m_28) H → va_S (wA (mw q cI m)) s.heap H locs → ∀ ls : Array Slot, lv_has ls 4 [(0, .ref (q 0))] → F = pX12_arrivals_L28 m_28 → W p l e rX12_arrivals s mi ([.ref (q 0), .int a1, .int a2, .int a3] : List Value).toArray below meth c H locs 0 0 (MQ below (gQi (dC, dI) (fun m9 => mw q cI m9) (wA (mw q cI m)) (pX12_arrivals m a1 a2 a3)) ([.ref (q 0), .int a1, .int a2, .int a3] : List Value).toArray s 0 0 (wA (mw q cI m))) (F0 mi 28 ls []) := by
    intro m_28 H locs hP hS ls hl hf
    refine lv_aload_n hx hb dX12_arrivals_28 rfl (lv_at hl 0 rfl) ?_
    refine lv_iconst (v := 2) hx hb dX12_arrivals_29 (by decide) ?_
    refine gms_i (va_runV (As := [.int 2]) (rest := []) ⟨hx, hb, hml, hown, hts⟩ (mX12_fails l dC dI cI cB cO cL q m_28 2 (gD_any hD) ) (cwV 1 hts gX12_arrivals_X12_fails rfl rfl rfl (by decide +kernel) ⟨Nat.le_of_ble_eq_true rfl, Nat.le_of_ble_eq_true rfl⟩) ⟨gP_blind, va_recv hK hP (ci := 9) (q0 := 0) rfl rfl, gP_ok hP hK⟩ rfl rfl hl.1 rfl (lv_room (Nat.le_of_ble_eq_true rfl)) dX12_arrivals_30 ⟨Nat.zero_le _, Nat.zero_le _⟩) hP (gD_va hD rfl) hS (fun r3 u4 H locs hw hP hS => ?_)
    have hP : va_P (dC, dI) vwCl (mw q cI u4) H := hP
    have hf := bd_eq hw hf
    exact e_mi C0 (hf.symm.trans hF) hP hS dX12_arrivals_33
  refine lv_aload_n hx hb dX12_arrivals_0 rfl (lv_at hl 0 rfl) ?_
  refine lv_iload_n hx hb dX12_arrivals_1 rfl (lv_at hl 3 rfl) ?_
  refine gro_i (va_runV (As := [.int a3]) (rest := []) ⟨hx, hb, hml, hown, hts⟩ (mX12_isMicrophone l dC dI cI cB cO cL q m a3  ) (cwV 1 hts gX12_arrivals_X12_isMicrophone rfl rfl rfl (by decide +kernel) ⟨Nat.le_of_ble_eq_true rfl, Nat.le_of_ble_eq_true rfl⟩) ⟨gP_blind, va_recv hK hP (ci := 9) (q0 := 0) rfl rfl, gP_ok hP hK⟩ rfl rfl hl.1 rfl (lv_room (Nat.le_of_ble_eq_true rfl)) dX12_arrivals_2 ⟨Nat.zero_le _, Nat.zero_le _⟩) ?_
  refine lv_if_ne (tgt := 14) hx hb dX12_arrivals_5 (by decide) (fun c1 => ?_) (fun c1 => ?_)
  · have c1 := bz_t c1
    have hf := it_eq c1 hf
    have hok := it_ok c1 hok
    refine lv_iload_n hx hb dX12_arrivals_14 rfl (lv_at hl 1 rfl) ?_
    refine gro_i (va_runS (As := [.int a1]) (rest := []) ⟨hx, hb, hml, hown, hts⟩ (mX12_isPlace l dC dI cI cB cO cL  a1  ) (va_cwS 1 hts gX12_arrivals_X12_isPlace rfl rfl rfl (by decide +kernel) ⟨Nat.le_of_ble_eq_true rfl, Nat.le_of_ble_eq_true rfl⟩) ⟨gP_blind, gP_ok va_P_nil hK⟩ rfl rfl hl.1 rfl (lv_room (Nat.le_of_ble_eq_true rfl)) dX12_arrivals_15 ⟨Nat.zero_le _, Nat.zero_le _⟩) ?_
    refine lv_if_eq (tgt := 28) hx hb dX12_arrivals_18 (by decide) (fun c2 => ?_) (fun c2 => ?_)
    · have c2 := bz_f c2
      have hf := ie_eq c2 hf
      exact J_28 m _ _ hP hS _ (lv_sub hl [0] rfl) hf
    · have c2 := bz_t c2
      have hf := it_eq c2 hf
      have hok := it_ok c2 hok
      refine lv_iload_n hx hb dX12_arrivals_21 rfl (lv_at hl 2 rfl) ?_
      refine gro_i (va_runS (As := [.int a2]) (rest := []) ⟨hx, hb, hml, hown, hts⟩ (mX12_isPlace l dC dI cI cB cO cL  a2  ) (va_cwS 1 hts gX12_arrivals_X12_isPlace rfl rfl rfl (by decide +kernel) ⟨Nat.le_of_ble_eq_true rfl, Nat.le_of_ble_eq_true rfl⟩) ⟨gP_blind, gP_ok va_P_nil hK⟩ rfl rfl hl.1 rfl (lv_room (Nat.le_of_ble_eq_true rfl)) dX12_arrivals_22 ⟨Nat.zero_le _, Nat.zero_le _⟩) ?_
      refine lv_if_ne (tgt := 34) hx hb dX12_arrivals_25 (by decide) (fun c5 => ?_) (fun c5 => ?_)
      · have c5 := bz_t c5
        have hf := it_eq c5 hf
        have hok := it_ok c5 hok
        refine lv_aload_n hx hb dX12_arrivals_34 rfl (lv_at hl 0 rfl) ?_
        refine lv_iload_n hx hb dX12_arrivals_35 rfl (lv_at hl 1 rfl) ?_
        refine lv_iload_n hx hb dX12_arrivals_36 rfl (lv_at hl 2 rfl) ?_
        refine lv_iload_n hx hb dX12_arrivals_37 rfl (lv_at hl 3 rfl) ?_
        have h6 : kX12_lists m a1 a2 a3 := hok
        refine gms_v (va_runV (As := [.int a1, .int a2, .int a3]) (rest := []) ⟨hx, hb, hml, hown, hts⟩ (mX12_lists l dC dI cI cB cO cL q m a1 a2 a3 (gD_any hD) h6) (cwV 3 hts gX12_arrivals_X12_lists rfl rfl rfl (by decide +kernel) ⟨Nat.le_of_ble_eq_true rfl, Nat.le_of_ble_eq_true rfl⟩) ⟨gP_blind, va_recv hK hP (ci := 9) (q0 := 0) rfl rfl, gP_ok hP hK⟩ rfl rfl hl.1 rfl (lv_room (Nat.le_of_ble_eq_true rfl)) dX12_arrivals_38 ⟨Nat.zero_le _, Nat.zero_le _⟩) hP (gD_va hD rfl) hS (fun u8 H locs hw hP hS => ?_)
        have hP : va_P (dC, dI) vwCl (mw q cI u8) H := hP
        have hf := lt_eq hw hf
        refine lv_aload_n hx hb dX12_arrivals_41 rfl (lv_at hl 0 rfl) ?_
        refine lv_aload_n hx hb dX12_arrivals_42 rfl (lv_at hl 0 rfl) ?_
        refine va_get (D := (dC, dI)) (ci := 9) (v := .int (u8.1 4)) (C := RX12) (T := TX12) (N := 23) hx hb hts hin12 hown hK hP 0 rfl rfl 13 (by decide) fl72 (fun _ h9 => h9) rfl dX12_arrivals_43 ?_
        refine gms_i (va_runV (As := [.int (u8.1 4)]) (rest := []) ⟨hx, hb, hml, hown, hts⟩ (mX12_tells l dC dI cI cB cO cL q u8 (u8.1 4) (gD_any hD) ) (cwV 1 hts gX12_arrivals_X12_tells rfl rfl rfl (by decide +kernel) ⟨Nat.le_of_ble_eq_true rfl, Nat.le_of_ble_eq_true rfl⟩) ⟨gP_blind, va_recv hK hP (ci := 9) (q0 := 0) rfl rfl, gP_ok hP hK⟩ rfl rfl hl.1 rfl (lv_room (Nat.le_of_ble_eq_true rfl)) dX12_arrivals_46 ⟨Nat.zero_le _, Nat.zero_le _⟩) hP (gD_va hD rfl) hS (fun r9 u10 H locs hw hP hS => ?_)
        have hP : va_P (dC, dI) vwCl (mw q cI u10) H := hP
        have hf := bd_eq hw hf
        exact e_mi C0 (hf.symm.trans hF) hP hS dX12_arrivals_49
      · have c5 := bz_f c5
        have hf := ie_eq c5 hf
        exact J_28 m _ _ hP hS _ (lv_sub hl [0] rfl) hf
  · have c1 := bz_f c1
    have hf := ie_eq c1 hf
    refine lv_aload_n hx hb dX12_arrivals_8 rfl (lv_at hl 0 rfl) ?_
    refine lv_iconst (v := 1) hx hb dX12_arrivals_9 (by decide) ?_
    refine gms_i (va_runV (As := [.int 1]) (rest := []) ⟨hx, hb, hml, hown, hts⟩ (mX12_fails l dC dI cI cB cO cL q m 1 (gD_any hD) ) (cwV 1 hts gX12_arrivals_X12_fails rfl rfl rfl (by decide +kernel) ⟨Nat.le_of_ble_eq_true rfl, Nat.le_of_ble_eq_true rfl⟩) ⟨gP_blind, va_recv hK hP (ci := 9) (q0 := 0) rfl rfl, gP_ok hP hK⟩ rfl rfl hl.1 rfl (lv_room (Nat.le_of_ble_eq_true rfl)) dX12_arrivals_10 ⟨Nat.zero_le _, Nat.zero_le _⟩) hP (gD_va hD rfl) hS (fun r11 u12 H locs hw hP hS => ?_)
    have hP : va_P (dC, dI) vwCl (mw q cI u12) H := hP
    have hf := bd_eq hw hf
    exact e_mi C0 (hf.symm.trans hF) hP hS dX12_arrivals_13
noncomputable def pX12_listedOf (m : MS) (a1 : Int32) (a2 : Int32) : Int32 := if a2 = 0 then ((m.2.2 4) a1.toNatClampNeg) else (if a2 = 1 then ((m.2.2 5) a1.toNatClampNeg) else (if a2 = 2 then (pX12_timeOf m ((m.2.2 5) a1.toNatClampNeg)) else ((m.2.2 6) a1.toNatClampNeg)))
def kX12_listedOf (m : MS) (a1 : Int32) (a2 : Int32) : Prop := if a2 = 0 then (vp_in a1 17) else (if a2 = 1 then (vp_in a1 17) else (if a2 = 2 then ((vp_in a1 17) ∧ (kX12_timeOf m ((m.2.2 5) a1.toNatClampNeg))) else (vp_in a1 17)))
abbrev rX12_listedOf : Room := { frames := 1, cells := 0, slots := 0, locals := 21 }
set_option maxHeartbeats 4000000 in
set_option maxRecDepth 100000 in
theorem mX12_listedOf (l : Launch) (dC : Nat → ClassId) (dI : Nat → Nat → Nat) (cI cB cO cL : ClassId) (q : Nat → Nat) (m : MS) (a1 : Int32) (a2 : Int32) (hok : kX12_listedOf m a1 a2) : Met l yX12_listedOf wsX12_listedOf rX12_listedOf (gP (dC, dI) (tYS cI cB cO cL) (mw q cI m) [.ref (q 0), .int a1, .int a2]) (gRi (pX12_listedOf m a1 a2)) 0 0 (fun _ => False) := by
  refine gMet (cc := cX12_listedOf) (maxL := 3) (ret := some .int) [(0, .ref (q 0)), (1, .int a1), (2, .int a2)] (by decide) rfl rfl rfl ?_
  intro p e s mi below meth c C0 hK hP ls hl
  obtain ⟨hx, hb, hr, hml, hown, hts, hlocks⟩ := id C0
  have hown : s.vm.findClass RX12 = some mi.cls := hown
  obtain ⟨F, hF⟩ : ∃ F, F = pX12_listedOf m a1 a2 := ⟨_, rfl⟩
  have hf := hF
  have hin12 : ∀ w ∈ u_ws RX12 TX12 23, w ∈ wsX12_listedOf := by decide +kernel
  have fl22 := hts (.fieldLink RX12 22 "ClickBenchModel" "kinds" "[I") (by decide +kernel)
  have fl25 := hts (.fieldLink RX12 25 "ClickBenchModel" "ways" "[I") (by decide +kernel)
  have fl28 := hts (.fieldLink RX12 28 "ClickBenchModel" "strengths" "[I") (by decide +kernel)
  refine lv_iload_n hx hb dX12_listedOf_0 rfl (lv_at hl 2 rfl) ?_
  by_cases c1 : a2 = 0
  · have hf := it_eq c1 hf
    have hok := it_ok c1 hok
    refine lv_tableIn (tgt := 28) (off := 27) hx hb dX12_listedOf_1 (by rw [c1]; decide) (by rw [c1]; decide) (by rw [c1]; rfl) (by decide) ?_
    refine lv_aload_n hx hb dX12_listedOf_28 rfl (lv_at hl 0 rfl) ?_
    refine va_get (D := (dC, dI)) (ci := 9) (v := .ref (q 5)) (C := RX12) (T := TX12) (N := 23) hx hb hts hin12 hown hK hP 0 rfl rfl 8 (by decide) fl22 (fun _ h9 => h9) rfl dX12_listedOf_29 ?_
    refine lv_iload_n hx hb dX12_listedOf_32 rfl (lv_at hl 1 rfl) ?_
    have h2 : vp_in a1 17 := hok
    refine va_iald (D := (dC, dI)) (tys := (tYS cI cB cO cL)) hx hb hK hP 5 0 rfl rfl h2 dX12_listedOf_33 ?_
    exact e_ri C0 (hf.symm.trans hF) dX12_listedOf_34
  · have hf := ie_eq c1 hf
    have hok := ie_ok c1 hok
    by_cases c3 : a2 = 1
    · have hf := it_eq c3 hf
      have hok := it_ok c3 hok
      refine lv_tableIn (tgt := 35) (off := 34) hx hb dX12_listedOf_1 (by rw [c3]; decide) (by rw [c3]; decide) (by rw [c3]; rfl) (by decide) ?_
      refine lv_aload_n hx hb dX12_listedOf_35 rfl (lv_at hl 0 rfl) ?_
      refine va_get (D := (dC, dI)) (ci := 9) (v := .ref (q 6)) (C := RX12) (T := TX12) (N := 23) hx hb hts hin12 hown hK hP 0 rfl rfl 9 (by decide) fl25 (fun _ h9 => h9) rfl dX12_listedOf_36 ?_
      refine lv_iload_n hx hb dX12_listedOf_39 rfl (lv_at hl 1 rfl) ?_
      have h4 : vp_in a1 17 := hok
      refine va_iald (D := (dC, dI)) (tys := (tYS cI cB cO cL)) hx hb hK hP 6 0 rfl rfl h4 dX12_listedOf_40 ?_
      exact e_ri C0 (hf.symm.trans hF) dX12_listedOf_41
    · have hf := ie_eq c3 hf
      have hok := ie_ok c3 hok
      by_cases c5 : a2 = 2
      · have hf := it_eq c5 hf
        have hok := it_ok c5 hok
        refine lv_tableIn (tgt := 42) (off := 41) hx hb dX12_listedOf_1 (by rw [c5]; decide) (by rw [c5]; decide) (by rw [c5]; rfl) (by decide) ?_
        refine lv_aload_n hx hb dX12_listedOf_42 rfl (lv_at hl 0 rfl) ?_
        refine lv_aload_n hx hb dX12_listedOf_43 rfl (lv_at hl 0 rfl) ?_
        refine va_get (D := (dC, dI)) (ci := 9) (v := .ref (q 6)) (C := RX12) (T := TX12) (N := 23) hx hb hts hin12 hown hK hP 0 rfl rfl 9 (by decide) fl25 (fun _ h9 => h9) rfl dX12_listedOf_44 ?_
        refine lv_iload_n hx hb dX12_listedOf_47 rfl (lv_at hl 1 rfl) ?_
        obtain ⟨h7, hok⟩ := hok
        refine va_iald (D := (dC, dI)) (tys := (tYS cI cB cO cL)) hx hb hK hP 6 0 rfl rfl h7 dX12_listedOf_48 ?_
        have h6 : kX12_timeOf m ((m.2.2 5) a1.toNatClampNeg) := hok
        refine gro_i (va_runV (As := [.int ((m.2.2 5) a1.toNatClampNeg)]) (rest := []) ⟨hx, hb, hml, hown, hts⟩ (mX12_timeOf l dC dI cI cB cO cL q m ((m.2.2 5) a1.toNatClampNeg)  h6) (cwV 1 hts gX12_listedOf_X12_timeOf rfl rfl rfl (by decide +kernel) ⟨Nat.le_of_ble_eq_true rfl, Nat.le_of_ble_eq_true rfl⟩) ⟨gP_blind, va_recv hK hP (ci := 9) (q0 := 0) rfl rfl, gP_ok hP hK⟩ rfl rfl hl.1 rfl (lv_room (Nat.le_of_ble_eq_true rfl)) dX12_listedOf_49 ⟨Nat.zero_le _, Nat.zero_le _⟩) ?_
        exact e_ri C0 (hf.symm.trans hF) dX12_listedOf_52
      · have hf := ie_eq c5 hf
        have hok := ie_ok c5 hok
        refine lv_tableOut (tgt := 53) hx hb dX12_listedOf_1 (by have h0_ := i32_ne (n := 0) rfl c1; have h1_ := i32_ne (n := 1) rfl c3; have h2_ := i32_ne (n := 2) rfl c5; omega) (by decide) ?_
        refine lv_aload_n hx hb dX12_listedOf_53 rfl (lv_at hl 0 rfl) ?_
        refine va_get (D := (dC, dI)) (ci := 9) (v := .ref (q 7)) (C := RX12) (T := TX12) (N := 23) hx hb hts hin12 hown hK hP 0 rfl rfl 10 (by decide) fl28 (fun _ h9 => h9) rfl dX12_listedOf_54 ?_
        refine lv_iload_n hx hb dX12_listedOf_57 rfl (lv_at hl 1 rfl) ?_
        have h8 : vp_in a1 17 := hok
        refine va_iald (D := (dC, dI)) (tys := (tYS cI cB cO cL)) hx hb hK hP 7 0 rfl rfl h8 dX12_listedOf_58 ?_
        exact e_ri C0 (hf.symm.trans hF) dX12_listedOf_59
noncomputable def pX12_arrival_L43   (m_43 : MS) : Int32 × MS := bd (pX12_fails m_43 2) fun (r3 : Int32) (u4 : MS) => (r3, u4)
noncomputable def pX12_arrival_L79   (t1_79 : Int32) (m_79 : MS) : Int32 × MS := bd (pX12_tells m_79 t1_79) fun (r12 : Int32) (u13 : MS) => (r12, u13)
noncomputable def pX12_arrival (m : MS) (a1 : Int32) (a2 : Int32) (a3 : Int32) (a4 : Int32) (a5 : Int32) : Int32 × MS := if (pX12_isMicrophone m a3) = true then (if (pX12_isPlace a1) = true then (if (pX12_isPlace a2) = true then (if a4 < 0 then (pX12_arrival_L43 m) else (if (pX12_in a5 0 3) = true then (lt (pX12_lists m a1 a2 a3) fun (u10 : MS) => if (u10.1 4) ≤ a4 then (pX12_arrival_L79 (-1000000000) u10) else (pX12_arrival_L79 (pX12_listedOf u10 a4 a5) u10)) else (pX12_arrival_L43 m))) else (pX12_arrival_L43 m)) else (pX12_arrival_L43 m)) else (bd (pX12_fails m 1) fun (r15 : Int32) (u16 : MS) => (r15, u16))
def kX12_arrival (m : MS) (a1 : Int32) (a2 : Int32) (a3 : Int32) (a4 : Int32) (a5 : Int32) : Prop := if (pX12_isMicrophone m a3) = true then (if (pX12_isPlace a1) = true then (if (pX12_isPlace a2) = true then (if a4 < 0 then (True) else (if (pX12_in a5 0 3) = true then ((kX12_lists m a1 a2 a3) ∧ (lt (pX12_lists m a1 a2 a3) fun (u10 : MS) => if (u10.1 4) ≤ a4 then (True) else (kX12_listedOf u10 a4 a5))) else (True))) else (True)) else (True)) else (True)
abbrev rX12_arrival : Room := { frames := 4, cells := 0, slots := 0, locals := 101 }
set_option maxHeartbeats 4000000 in
set_option maxRecDepth 100000 in
theorem mX12_arrival (l : Launch) (dC : Nat → ClassId) (dI : Nat → Nat → Nat) (cI cB cO cL : ClassId) (q : Nat → Nat) (m : MS) (a1 : Int32) (a2 : Int32) (a3 : Int32) (a4 : Int32) (a5 : Int32) (hI : gD (fun _ => True) (mAd q)) (hok : kX12_arrival m a1 a2 a3 a4 a5) : Met l yX12_arrival wsX12_arrival rX12_arrival (gP (dC, dI) (tYS cI cB cO cL) (mw q cI m) [.ref (q 0), .int a1, .int a2, .int a3, .int a4, .int a5]) (gQi (dC, dI) (fun m9 => mw q cI m9) (wA (mw q cI m)) (pX12_arrival m a1 a2 a3 a4 a5)) 0 0 (wA (mw q cI m)) := by
  refine gMet (cc := cX12_arrival) (maxL := 6) (ret := some .int) [(0, .ref (q 0)), (1, .int a1), (2, .int a2), (3, .int a3), (4, .int a4), (5, .int a5)] (by decide) rfl rfl rfl ?_
  intro p e s mi below meth c C0 hK hP ls hl
  obtain ⟨hx, hb, hr, hml, hown, hts, hlocks⟩ := id C0
  have hown : s.vm.findClass RX12 = some mi.cls := hown
  have hS : va_S (wA (mw q cI m)) s.heap s.heap [] := va_S.rf
  have hD : gD (wA (mw q cI m)) (mAd q) := gD_wA (ws := mw q cI m) hI
  have hP : va_P (dC, dI) vwCl (mw q cI m) s.heap := hP
  obtain ⟨F, hF⟩ : ∃ F, F = pX12_arrival m a1 a2 a3 a4 a5 := ⟨_, rfl⟩
  have hf := hF
  have hin12 : ∀ w ∈ u_ws RX12 TX12 23, w ∈ wsX12_arrival := by decide +kernel
  have fl72 := hts (.fieldLink RX12 72 "ClickBenchModel" "listed" "I") (by decide +kernel)
  have cn71 := hts (.constant RX12 71 (-1000000000)) (by decide +kernel)
  have J_43 : ∀ (m_43 : MS) (H : Heap) (locs : List Loc), va_P (dC, dI) vwCl (mw q cI m_43) H → va_S (wA (mw q cI m)) s.heap H locs → ∀ ls : Array Slot, lv_has ls 6 [(0, .ref (q 0))] → F = pX12_arrival_L43 m_43 → W p l e rX12_arrival s mi ([.ref (q 0), .int a1, .int a2, .int a3, .int a4, .int a5] : List Value).toArray below meth c H locs 0 0 (MQ below (gQi (dC, dI) (fun m9 => mw q cI m9) (wA (mw q cI m)) (pX12_arrival m a1 a2 a3 a4 a5)) ([.ref (q 0), .int a1, .int a2, .int a3, .int a4, .int a5] : List Value).toArray s 0 0 (wA (mw q cI m))) (F0 mi 43 ls []) := by
    intro m_43 H locs hP hS ls hl hf
    refine lv_aload_n hx hb dX12_arrival_43 rfl (lv_at hl 0 rfl) ?_
    refine lv_iconst (v := 2) hx hb dX12_arrival_44 (by decide) ?_
    refine gms_i (va_runV (As := [.int 2]) (rest := []) ⟨hx, hb, hml, hown, hts⟩ (mX12_fails l dC dI cI cB cO cL q m_43 2 (gD_any hD) ) (cwV 1 hts gX12_arrival_X12_fails rfl rfl rfl (by decide +kernel) ⟨Nat.le_of_ble_eq_true rfl, Nat.le_of_ble_eq_true rfl⟩) ⟨gP_blind, va_recv hK hP (ci := 9) (q0 := 0) rfl rfl, gP_ok hP hK⟩ rfl rfl hl.1 rfl (lv_room (Nat.le_of_ble_eq_true rfl)) dX12_arrival_45 ⟨Nat.zero_le _, Nat.zero_le _⟩) hP (gD_va hD rfl) hS (fun r3 u4 H locs hw hP hS => ?_)
    have hP : va_P (dC, dI) vwCl (mw q cI u4) H := hP
    have hf := bd_eq hw hf
    exact e_mi C0 (hf.symm.trans hF) hP hS dX12_arrival_48
  have J_79 : ∀ (t1_79 : Int32) (m_79 : MS) (H : Heap) (locs : List Loc), va_P (dC, dI) vwCl (mw q cI m_79) H → va_S (wA (mw q cI m)) s.heap H locs → ∀ ls : Array Slot, lv_has ls 6 [] → F = pX12_arrival_L79 t1_79 m_79 → W p l e rX12_arrival s mi ([.ref (q 0), .int a1, .int a2, .int a3, .int a4, .int a5] : List Value).toArray below meth c H locs 0 0 (MQ below (gQi (dC, dI) (fun m9 => mw q cI m9) (wA (mw q cI m)) (pX12_arrival m a1 a2 a3 a4 a5)) ([.ref (q 0), .int a1, .int a2, .int a3, .int a4, .int a5] : List Value).toArray s 0 0 (wA (mw q cI m))) (F0 mi 79 ls [.int t1_79, .ref (q 0)]) := by
    intro t1_79 m_79 H locs hP hS ls hl hf
    refine gms_i (va_runV (As := [.int t1_79]) (rest := []) ⟨hx, hb, hml, hown, hts⟩ (mX12_tells l dC dI cI cB cO cL q m_79 t1_79 (gD_any hD) ) (cwV 1 hts gX12_arrival_X12_tells rfl rfl rfl (by decide +kernel) ⟨Nat.le_of_ble_eq_true rfl, Nat.le_of_ble_eq_true rfl⟩) ⟨gP_blind, va_recv hK hP (ci := 9) (q0 := 0) rfl rfl, gP_ok hP hK⟩ rfl rfl hl.1 rfl (lv_room (Nat.le_of_ble_eq_true rfl)) dX12_arrival_79 ⟨Nat.zero_le _, Nat.zero_le _⟩) hP (gD_va hD rfl) hS (fun r12 u13 H locs hw hP hS => ?_)
    have hP : va_P (dC, dI) vwCl (mw q cI u13) H := hP
    have hf := bd_eq hw hf
    exact e_mi C0 (hf.symm.trans hF) hP hS dX12_arrival_82
  refine lv_aload_n hx hb dX12_arrival_0 rfl (lv_at hl 0 rfl) ?_
  refine lv_iload_n hx hb dX12_arrival_1 rfl (lv_at hl 3 rfl) ?_
  refine gro_i (va_runV (As := [.int a3]) (rest := []) ⟨hx, hb, hml, hown, hts⟩ (mX12_isMicrophone l dC dI cI cB cO cL q m a3  ) (cwV 1 hts gX12_arrival_X12_isMicrophone rfl rfl rfl (by decide +kernel) ⟨Nat.le_of_ble_eq_true rfl, Nat.le_of_ble_eq_true rfl⟩) ⟨gP_blind, va_recv hK hP (ci := 9) (q0 := 0) rfl rfl, gP_ok hP hK⟩ rfl rfl hl.1 rfl (lv_room (Nat.le_of_ble_eq_true rfl)) dX12_arrival_2 ⟨Nat.zero_le _, Nat.zero_le _⟩) ?_
  refine lv_if_ne (tgt := 14) hx hb dX12_arrival_5 (by decide) (fun c1 => ?_) (fun c1 => ?_)
  · have c1 := bz_t c1
    have hf := it_eq c1 hf
    have hok := it_ok c1 hok
    refine lv_iload_n hx hb dX12_arrival_14 rfl (lv_at hl 1 rfl) ?_
    refine gro_i (va_runS (As := [.int a1]) (rest := []) ⟨hx, hb, hml, hown, hts⟩ (mX12_isPlace l dC dI cI cB cO cL  a1  ) (va_cwS 1 hts gX12_arrival_X12_isPlace rfl rfl rfl (by decide +kernel) ⟨Nat.le_of_ble_eq_true rfl, Nat.le_of_ble_eq_true rfl⟩) ⟨gP_blind, gP_ok va_P_nil hK⟩ rfl rfl hl.1 rfl (lv_room (Nat.le_of_ble_eq_true rfl)) dX12_arrival_15 ⟨Nat.zero_le _, Nat.zero_le _⟩) ?_
    refine lv_if_eq (tgt := 43) hx hb dX12_arrival_18 (by decide) (fun c2 => ?_) (fun c2 => ?_)
    · have c2 := bz_f c2
      have hf := ie_eq c2 hf
      exact J_43 m _ _ hP hS _ (lv_sub hl [0] rfl) hf
    · have c2 := bz_t c2
      have hf := it_eq c2 hf
      have hok := it_ok c2 hok
      refine lv_iload_n hx hb dX12_arrival_21 rfl (lv_at hl 2 rfl) ?_
      refine gro_i (va_runS (As := [.int a2]) (rest := []) ⟨hx, hb, hml, hown, hts⟩ (mX12_isPlace l dC dI cI cB cO cL  a2  ) (va_cwS 1 hts gX12_arrival_X12_isPlace rfl rfl rfl (by decide +kernel) ⟨Nat.le_of_ble_eq_true rfl, Nat.le_of_ble_eq_true rfl⟩) ⟨gP_blind, gP_ok va_P_nil hK⟩ rfl rfl hl.1 rfl (lv_room (Nat.le_of_ble_eq_true rfl)) dX12_arrival_22 ⟨Nat.zero_le _, Nat.zero_le _⟩) ?_
      refine lv_if_eq (tgt := 43) hx hb dX12_arrival_25 (by decide) (fun c5 => ?_) (fun c5 => ?_)
      · have c5 := bz_f c5
        have hf := ie_eq c5 hf
        exact J_43 m _ _ hP hS _ (lv_sub hl [0] rfl) hf
      · have c5 := bz_t c5
        have hf := it_eq c5 hf
        have hok := it_ok c5 hok
        refine lv_iload hx hb dX12_arrival_28 (lv_at hl 4 rfl) ?_
        refine lv_if_lt (tgt := 43) hx hb dX12_arrival_30 (by decide) (fun c6 => ?_) (fun c6 => ?_)
        · have hf := it_eq c6 hf
          exact J_43 m _ _ hP hS _ (lv_sub hl [0] rfl) hf
        · have hf := ie_eq c6 hf
          have hok := ie_ok c6 hok
          refine lv_iload hx hb dX12_arrival_33 (lv_at hl 5 rfl) ?_
          refine lv_iconst (v := 0) hx hb dX12_arrival_35 (by decide) ?_
          refine lv_iconst (v := 3) hx hb dX12_arrival_36 (by decide) ?_
          refine gro_i (va_runS (As := [.int a5, .int 0, .int 3]) (rest := []) ⟨hx, hb, hml, hown, hts⟩ (mX12_in l dC dI cI cB cO cL  a5 0 3  ) (va_cwS 3 hts gX12_arrival_X12_in rfl rfl rfl (by decide +kernel) ⟨Nat.le_of_ble_eq_true rfl, Nat.le_of_ble_eq_true rfl⟩) ⟨gP_blind, gP_ok va_P_nil hK⟩ rfl rfl hl.1 rfl (lv_room (Nat.le_of_ble_eq_true rfl)) dX12_arrival_37 ⟨Nat.zero_le _, Nat.zero_le _⟩) ?_
          refine lv_if_ne (tgt := 49) hx hb dX12_arrival_40 (by decide) (fun c7 => ?_) (fun c7 => ?_)
          · have c7 := bz_t c7
            have hf := it_eq c7 hf
            have hok := it_ok c7 hok
            refine lv_aload_n hx hb dX12_arrival_49 rfl (lv_at hl 0 rfl) ?_
            refine lv_iload_n hx hb dX12_arrival_50 rfl (lv_at hl 1 rfl) ?_
            refine lv_iload_n hx hb dX12_arrival_51 rfl (lv_at hl 2 rfl) ?_
            refine lv_iload_n hx hb dX12_arrival_52 rfl (lv_at hl 3 rfl) ?_
            obtain ⟨h8, hok⟩ := hok
            refine gms_v (va_runV (As := [.int a1, .int a2, .int a3]) (rest := []) ⟨hx, hb, hml, hown, hts⟩ (mX12_lists l dC dI cI cB cO cL q m a1 a2 a3 (gD_any hD) h8) (cwV 3 hts gX12_arrival_X12_lists rfl rfl rfl (by decide +kernel) ⟨Nat.le_of_ble_eq_true rfl, Nat.le_of_ble_eq_true rfl⟩) ⟨gP_blind, va_recv hK hP (ci := 9) (q0 := 0) rfl rfl, gP_ok hP hK⟩ rfl rfl hl.1 rfl (lv_room (Nat.le_of_ble_eq_true rfl)) dX12_arrival_53 ⟨Nat.zero_le _, Nat.zero_le _⟩) hP (gD_va hD rfl) hS (fun u10 H locs hw hP hS => ?_)
            have hP : va_P (dC, dI) vwCl (mw q cI u10) H := hP
            have hf := lt_eq hw hf
            have hok := lt_ok hw hok
            refine lv_aload_n hx hb dX12_arrival_56 rfl (lv_at hl 0 rfl) ?_
            refine lv_iload hx hb dX12_arrival_57 (lv_at hl 4 rfl) ?_
            refine lv_aload_n hx hb dX12_arrival_59 rfl (lv_at hl 0 rfl) ?_
            refine va_get (D := (dC, dI)) (ci := 9) (v := .int (u10.1 4)) (C := RX12) (T := TX12) (N := 23) hx hb hts hin12 hown hK hP 0 rfl rfl 13 (by decide) fl72 (fun _ h9 => h9) rfl dX12_arrival_60 ?_
            refine lv_icmp_ge (tgt := 77) hx hb dX12_arrival_63 (by decide) (fun c11 => ?_) (fun c11 => ?_)
            · have hf := it_eq c11 hf
              refine lv_ldc (v := (-1000000000)) hx hb hown cn71 dX12_arrival_77 ?_
              exact J_79 (-1000000000) u10 _ _ hP hS _ (lv_sub hl [] rfl) hf
            · have hf := ie_eq c11 hf
              have hok := ie_ok c11 hok
              refine lv_aload_n hx hb dX12_arrival_66 rfl (lv_at hl 0 rfl) ?_
              refine lv_iload hx hb dX12_arrival_67 (lv_at hl 4 rfl) ?_
              refine lv_iload hx hb dX12_arrival_69 (lv_at hl 5 rfl) ?_
              have h14 : kX12_listedOf u10 a4 a5 := hok
              refine gro_i (va_runV (As := [.int a4, .int a5]) (rest := [.ref (q 0)]) ⟨hx, hb, hml, hown, hts⟩ (mX12_listedOf l dC dI cI cB cO cL q u10 a4 a5  h14) (cwV 2 hts gX12_arrival_X12_listedOf rfl rfl rfl (by decide +kernel) ⟨Nat.le_of_ble_eq_true rfl, Nat.le_of_ble_eq_true rfl⟩) ⟨gP_blind, va_recv hK hP (ci := 9) (q0 := 0) rfl rfl, gP_ok hP hK⟩ rfl rfl hl.1 rfl (lv_room (Nat.le_of_ble_eq_true rfl)) dX12_arrival_71 ⟨Nat.zero_le _, Nat.zero_le _⟩) ?_
              refine lv_goto (tgt := 79) hx hb dX12_arrival_74 (by decide) ?_
              exact J_79 (pX12_listedOf u10 a4 a5) u10 _ _ hP hS _ (lv_sub hl [] rfl) hf
          · have c7 := bz_f c7
            have hf := ie_eq c7 hf
            exact J_43 m _ _ hP hS _ (lv_sub hl [0] rfl) hf
  · have c1 := bz_f c1
    have hf := ie_eq c1 hf
    refine lv_aload_n hx hb dX12_arrival_8 rfl (lv_at hl 0 rfl) ?_
    refine lv_iconst (v := 1) hx hb dX12_arrival_9 (by decide) ?_
    refine gms_i (va_runV (As := [.int 1]) (rest := []) ⟨hx, hb, hml, hown, hts⟩ (mX12_fails l dC dI cI cB cO cL q m 1 (gD_any hD) ) (cwV 1 hts gX12_arrival_X12_fails rfl rfl rfl (by decide +kernel) ⟨Nat.le_of_ble_eq_true rfl, Nat.le_of_ble_eq_true rfl⟩) ⟨gP_blind, va_recv hK hP (ci := 9) (q0 := 0) rfl rfl, gP_ok hP hK⟩ rfl rfl hl.1 rfl (lv_room (Nat.le_of_ble_eq_true rfl)) dX12_arrival_10 ⟨Nat.zero_le _, Nat.zero_le _⟩) hP (gD_va hD rfl) hS (fun r15 u16 H locs hw hP hS => ?_)
    have hP : va_P (dC, dI) vwCl (mw q cI u16) H := hP
    have hf := bd_eq hw hf
    exact e_mi C0 (hf.symm.trans hF) hP hS dX12_arrival_13
