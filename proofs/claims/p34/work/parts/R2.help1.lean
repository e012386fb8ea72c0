/-! THE LAW: its helpers (1) -/
section HLP1
abbrev rL_clicks : Room := { frames := 8, cells := 4, slots := 24, locals := 176 }
set_option maxHeartbeats 4000000 in
set_option maxRecDepth 100000 in
theorem mL_clicks (l : Launch) (hfl : l.stackTraces = false) (dC : Nat → ClassId) (dI : Nat → Nat → Nat) (cI cB cO cL : ClassId) (N0 : Nat) (sT eA : Nat → Nat) (qe : Nat → Nat) (qb : Nat → Nat) (qs : Nat → Nat) (qu : Nat → Nat) (qk : Nat → Nat) (qr : Nat → Nat) (qx : Nat → Nat) (qd : Nat → Nat) (te : TS) (b : BS) (s9 : SS) (u : US) (kk : Int32) (a1 : Int32) (a2 : Int32) (a3 : Int32) (sz : Nat) (hsz : N0 ≤ sz) (hDa : gD (fun _ => True) (eAd qe ++ bAd qb ++ sAd qs ++ uAd qu ++ kAd qk)) (hNa : ∀ a ∈ (eAd qe ++ bAd qb ++ sAd qs ++ uAd qu ++ kAd qk : List Nat), N0 ≤ a) (hok : kX11_click te b s9 u kk a1 a2 a3) (hc : (pX11_click te b s9 u kk a1 a2 a3).1 = 0 ∨ (pX11_click te b s9 u kk a1 a2 a3).1 = 2 ∨ (pX11_click te b s9 u kk a1 a2 a3).1 = 3) : Met l yL_clicks wsT_clicks rL_clicks (lP N0 sz sT eA (dC, dI) (tYS cI cB cO cL) (ew qe cI te ++ bw qb cI b ++ sw qs cI s9 ++ uw qu cI cB u ++ kw qk qb qr qe qs qu qx qd cI kk) [.ref (qk 0), .int a1, .int a2, .int a3]) (hQ (dC, dI) (fun z9 : TS × BS × SS × US × Int32 => ew qe cI z9.1 ++ bw qb cI z9.2.1 ++ sw qs cI z9.2.2.1 ++ uw qu cI cB z9.2.2.2.1 ++ kw qk qb qr qe qs qu qx qd cI z9.2.2.2.2) (va_A (ew qe cI te ++ bw qb cI b ++ sw qs cI s9 ++ uw qu cI cB u ++ kw qk qb qr qe qs qu qx qd cI kk) sz) (pX11_click te b s9 u kk a1 a2 a3)) 4 24 (va_A (ew qe cI te ++ bw qb cI b ++ sw qs cI s9 ++ uw qu cI cB u ++ kw qk qb qr qe qs qu qx qd cI kk) sz) := by
  refine lMet (cc := cL_clicks) (maxL := 5) (ret := some .int) (hh := [(0, 7, 8, 105), (0, 7, 13, 110)]) [(0, .ref (qk 0)), (1, .int a1), (2, .int a2), (3, .int a3)] (by decide) rfl rfl rfl ?_
  intro p e s mi below meth c C0 htab hz hK hF hC hP ls hl
  obtain ⟨hx, hb, hr, hml, hown, hts, hlocks⟩ := id C0
  have hown : s.vm.findClass RL = some mi.cls := hown
  have htab : c.exceptionTable.toList = [⟨0, 7, 8, 105⟩, ⟨0, 7, 13, 110⟩] := htab
  subst hz
  have hA : ∀ q : Nat, s.heap.size ≤ q → (va_A (ew qe cI te ++ bw qb cI b ++ sw qs cI s9 ++ uw qu cI cB u ++ kw qk qb qr qe qs qu qx qd cI kk) s.heap.size) q := fun q h => Or.inr h
  have hN : ∀ q : Nat, (va_A (ew qe cI te ++ bw qb cI b ++ sw qs cI s9 ++ uw qu cI cB u ++ kw qk qb qr qe qs qu qx qd cI kk) s.heap.size) q → N0 ≤ q := vA_N (ws := ew qe cI te ++ bw qb cI b ++ sw qs cI s9 ++ uw qu cI cB u ++ kw qk qb qr qe qs qu qx qd cI kk) hNa hsz
  have hD : gD (va_A (ew qe cI te ++ bw qb cI b ++ sw qs cI s9 ++ uw qu cI cB u ++ kw qk qb qr qe qs qu qx qd cI kk) s.heap.size) (eAd qe ++ bAd qb ++ sAd qs ++ uAd qu ++ kAd qk) := gD_vA (ws := ew qe cI te ++ bw qb cI b ++ sw qs cI s9 ++ uw qu cI cB u ++ kw qk qb qr qe qs qu qx qd cI kk) hDa
  have hS : va_S (va_A (ew qe cI te ++ bw qb cI b ++ sw qs cI s9 ++ uw qu cI cB u ++ kw qk qb qr qe qs qu qx qd cI kk) s.heap.size) s.heap s.heap [] := va_S.rf
  have hP : va_P (dC, dI) vwCl (ew qe cI te ++ bw qb cI b ++ sw qs cI s9 ++ uw qu cI cB u ++ kw qk qb qr qe qs qu qx qd cI kk) s.heap := hP
  refine lv_aload_n hx hb dL_clicks_0 rfl (lv_at hl 0 rfl) ?_
  refine lv_iload_n hx hb dL_clicks_1 rfl (lv_at hl 1 rfl) ?_
  refine lv_iload_n hx hb dL_clicks_2 rfl (lv_at hl 2 rfl) ?_
  refine lv_iload_n hx hb dL_clicks_3 rfl (lv_at hl 3 rfl) ?_
  refine h_call (w0 := ew qe cI te ++ bw qb cI b ++ sw qs cI s9 ++ uw qu cI cB u ++ kw qk qb qr qe qs qu qx qd cI kk) (vx_runV (As := [.int a1, .int a2, .int a3]) (rest := []) ⟨hx, hb, hml, hown, hts⟩ (mX11_click l hfl dC dI cI cB cO cL N0 sT eA qe qb qs qu qk qr qx qd te b s9 u kk a1 a2 a3 s.heap.size hsz (gD_any hD) hNa hok) (cwV 3 hts (gT_in gQ_X11_click_134) rfl rfl rfl (by decide +kernel) ⟨Nat.le_of_ble_eq_true rfl, Nat.le_of_ble_eq_true rfl⟩) ⟨zP_blind, va_recv hK hP (ci := 8) (q0 := 56) rfl rfl, zP_ok hP hK hF hS hN⟩ rfl rfl hl.1 rfl (lv_room (Nat.le_of_ble_eq_true rfl)) dL_clicks_4 ⟨Nat.le_of_ble_eq_true rfl, Nat.le_of_ble_eq_true rfl⟩) (gD_va hD rfl) hS hA (fun hne q9 ce H locs hP hS hce hcv hcl => ?_) (fun h0 H locs hP hS => ?_)
  · rcases hc.resolve_left hne with hx2 | hx3
    · have hcl : s.vm.findClass "java/lang/IllegalArgumentException" = some ce.cls := (congrArg (fun z => s.vm.findClass (xN z)) hx2).symm.trans hcl
      refine vx_catch (E := "java/lang/IllegalArgumentException") (name := "java/lang/IllegalArgumentException") hown [] ⟨0, 7, 8, 105⟩ [⟨0, 7, 13, 110⟩] htab (fun z hz => absurd hz List.not_mem_nil) rfl (by decide) (hts (.classLink RL 105 "java/lang/IllegalArgumentException") (gTt tw297)) (hF.2.1.cas _ cas2) hce hcv hcl ?_
      refine lv_astore (lv' := [(4, .ref q9), (0, .ref (qk 0)), (1, .int a1), (2, .int a2), (3, .int a3)]) hx hb dL_clicks_8 hl (by decide) rfl (fun ls hl => ?_)
      refine lv_ldc (v := (-100000002)) hx hb hown (hts (.constant RL 48 (-100000002)) (gTt tw443)) dL_clicks_10 ?_
      exact e_H C0 (hF_x hne hx2 rfl) hP hS rfl rfl dL_clicks_12
    · have hcl : s.vm.findClass "java/lang/IllegalStateException" = some ce.cls := (congrArg (fun z => s.vm.findClass (xN z)) hx3).symm.trans hcl
      refine vx_catch (E := "java/lang/IllegalStateException") (name := "java/lang/IllegalStateException") hown [⟨0, 7, 8, 105⟩] ⟨0, 7, 13, 110⟩ [] htab (fun z hz => Or.inr (by rw [List.mem_singleton.mp hz]; exact ⟨by decide, "java/lang/IllegalArgumentException", hts (.classLink RL 105 "java/lang/IllegalArgumentException") (gTt tw297), hC.2.1⟩)) rfl (by decide) (hts (.classLink RL 110 "java/lang/IllegalStateException") (gTt tw447)) (hF.2.1.cas _ cas3) hce hcv hcl ?_
      refine lv_astore (lv' := [(4, .ref q9), (0, .ref (qk 0)), (1, .int a1), (2, .int a2), (3, .int a3)]) hx hb dL_clicks_13 hl (by decide) rfl (fun ls hl => ?_)
      refine lv_ldc (v := (-100000003)) hx hb hown (hts (.constant RL 95 (-100000003)) (gTt tw461)) dL_clicks_15 ?_
      exact e_H C0 (hF_x hne hx3 rfl) hP hS rfl rfl dL_clicks_17
  · exact e_H C0 (hF_0 h0) hP hS rfl rfl dL_clicks_7
abbrev rL_noteOf : Room := { frames := 9, cells := 4, slots := 24, locals := 153 }
set_option maxHeartbeats 4000000 in
set_option maxRecDepth 100000 in
theorem mL_noteOf (l : Launch) (hfl : l.stackTraces = false) (dC : Nat → ClassId) (dI : Nat → Nat → Nat) (cI cB cO cL : ClassId) (N0 : Nat) (sT eA : Nat → Nat) (qb : Nat → Nat) (qk : Nat → Nat) (qr : Nat → Nat) (qe : Nat → Nat) (qs : Nat → Nat) (qu : Nat → Nat) (qx : Nat → Nat) (qd : Nat → Nat) (b : BS) (kk : Int32) (a1 : Int32) (sz : Nat) (hsz : N0 ≤ sz) (hDa : gD (fun _ => True) (bAd qb ++ kAd qk)) (hNa : ∀ a ∈ (bAd qb ++ kAd qk : List Nat), N0 ≤ a) (hok : kX11_note b kk a1) (hc : (pX11_note b kk a1).1 = 0 ∨ (pX11_note b kk a1).1 = 1) : Met l yL_noteOf wsT_noteOf rL_noteOf (lP N0 sz sT eA (dC, dI) (tYS cI cB cO cL) (bw qb cI b ++ kw qk qb qr qe qs qu qx qd cI kk) [.ref (qk 0), .int a1]) (hQ (dC, dI) (fun z9 : BS × Int32 => bw qb cI z9.1 ++ kw qk qb qr qe qs qu qx qd cI z9.2) (va_A (bw qb cI b ++ kw qk qb qr qe qs qu qx qd cI kk) sz) (pX11_note b kk a1)) 4 24 (va_A (bw qb cI b ++ kw qk qb qr qe qs qu qx qd cI kk) sz) := by
  refine lMet (cc := cL_noteOf) (maxL := 3) (ret := some .int) (hh := [(0, 5, 6, 115)]) [(0, .ref (qk 0)), (1, .int a1)] (by decide) rfl rfl rfl ?_
  intro p e s mi below meth c C0 htab hz hK hF hC hP ls hl
  obtain ⟨hx, hb, hr, hml, hown, hts, hlocks⟩ := id C0
  have hown : s.vm.findClass RL = some mi.cls := hown
  have htab : c.exceptionTable.toList = [⟨0, 5, 6, 115⟩] := htab
  subst hz
  have hA : ∀ q : Nat, s.heap.size ≤ q → (va_A (bw qb cI b ++ kw qk qb qr qe qs qu qx qd cI kk) s.heap.size) q := fun q h => Or.inr h
  have hN : ∀ q : Nat, (va_A (bw qb cI b ++ kw qk qb qr qe qs qu qx qd cI kk) s.heap.size) q → N0 ≤ q := vA_N (ws := bw qb cI b ++ kw qk qb qr qe qs qu qx qd cI kk) hNa hsz
  have hD : gD (va_A (bw qb cI b ++ kw qk qb qr qe qs qu qx qd cI kk) s.heap.size) (bAd qb ++ kAd qk) := gD_vA (ws := bw qb cI b ++ kw qk qb qr qe qs qu qx qd cI kk) hDa
  have hS : va_S (va_A (bw qb cI b ++ kw qk qb qr qe qs qu qx qd cI kk) s.heap.size) s.heap s.heap [] := va_S.rf
  have hP : va_P (dC, dI) vwCl (bw qb cI b ++ kw qk qb qr qe qs qu qx qd cI kk) s.heap := hP
  refine lv_aload_n hx hb dL_noteOf_0 rfl (lv_at hl 0 rfl) ?_
  refine lv_iload_n hx hb dL_noteOf_1 rfl (lv_at hl 1 rfl) ?_
  refine h_call (w0 := bw qb cI b ++ kw qk qb qr qe qs qu qx qd cI kk) (vx_runV (As := [.int a1]) (rest := []) ⟨hx, hb, hml, hown, hts⟩ (mX11_note l hfl dC dI cI cB cO cL N0 sT eA qb qk qr qe qs qu qx qd b kk a1 s.heap.size hsz (gD_any hD) hNa hok) (cwV 1 hts (gT_in gQ_X11_note_140) rfl rfl rfl (by decide +kernel) ⟨Nat.le_of_ble_eq_true rfl, Nat.le_of_ble_eq_true rfl⟩) ⟨zP_blind, va_recv hK hP (ci := 8) (q0 := 9) rfl rfl, zP_ok hP hK hF hS hN⟩ rfl rfl hl.1 rfl (lv_room (Nat.le_of_ble_eq_true rfl)) dL_noteOf_2 ⟨Nat.le_of_ble_eq_true rfl, Nat.le_of_ble_eq_true rfl⟩) (gD_va hD rfl) hS hA (fun hne q9 ce H locs hP hS hce hcv hcl => ?_) (fun h0 H locs hP hS => ?_)
  · have hx1 := hc.resolve_left hne
    have hcl : s.vm.findClass "java/lang/IndexOutOfBoundsException" = some ce.cls := (congrArg (fun z => s.vm.findClass (xN z)) hx1).symm.trans hcl
    refine vx_catch (E := "java/lang/IndexOutOfBoundsException") (name := "java/lang/IndexOutOfBoundsException") hown [] ⟨0, 5, 6, 115⟩ [] htab (fun z hz => absurd hz List.not_mem_nil) rfl (by decide) (hts (.classLink RL 115 "java/lang/IndexOutOfBoundsException") (gTt tw496)) (hF.2.1.cas _ cas1) hce hcv hcl ?_
    refine lv_astore_n (lv' := [(2, .ref q9), (0, .ref (qk 0)), (1, .int a1)]) hx hb dL_noteOf_6 rfl hl (by decide) rfl (fun ls hl => ?_)
    refine lv_ldc (v := (-100000001)) hx hb hown (hts (.constant RL 63 (-100000001)) (gTt tw521)) dL_noteOf_7 ?_
    exact e_H C0 (hF_x hne hx1 rfl) hP hS rfl rfl dL_noteOf_9
  · exact e_H C0 (hF_0 h0) hP hS rfl rfl dL_noteOf_5
abbrev rL_heardOf : Room := { frames := 9, cells := 4, slots := 24, locals := 154 }
set_option maxHeartbeats 4000000 in
set_option maxRecDepth 100000 in
theorem mL_heardOf (l : Launch) (hfl : l.stackTraces = false) (dC : Nat → ClassId) (dI : Nat → Nat → Nat) (cI cB cO cL : ClassId) (N0 : Nat) (sT eA : Nat → Nat) (qb : Nat → Nat) (qk : Nat → Nat) (qr : Nat → Nat) (qe : Nat → Nat) (qs : Nat → Nat) (qu : Nat → Nat) (qx : Nat → Nat) (qd : Nat → Nat) (b : BS) (kk : Int32) (a1 : Int32) (a2 : Int32) (sz : Nat) (hsz : N0 ≤ sz) (hDa : gD (fun _ => True) (bAd qb ++ kAd qk)) (hNa : ∀ a ∈ (bAd qb ++ kAd qk : List Nat), N0 ≤ a) (hok : kX11_heard b kk a1 a2) (hc : (pX11_heard b kk a1 a2).1 = 0 ∨ (pX11_heard b kk a1 a2).1 = 1 ∨ (pX11_heard b kk a1 a2).1 = 2) : Met l yL_heardOf wsT_heardOf rL_heardOf (lP N0 sz sT eA (dC, dI) (tYS cI cB cO cL) (bw qb cI b ++ kw qk qb qr qe qs qu qx qd cI kk) [.ref (qk 0), .int a1, .int a2]) (hQ (dC, dI) (fun z9 : BS × Int32 => bw qb cI z9.1 ++ kw qk qb qr qe qs qu qx qd cI z9.2) (va_A (bw qb cI b ++ kw qk qb qr qe qs qu qx qd cI kk) sz) (pX11_heard b kk a1 a2)) 4 24 (va_A (bw qb cI b ++ kw qk qb qr qe qs qu qx qd cI kk) sz) := by
  refine lMet (cc := cL_heardOf) (maxL := 4) (ret := some .int) (hh := [(0, 6, 7, 115), (0, 6, 11, 105)]) [(0, .ref (qk 0)), (1, .int a1), (2, .int a2)] (by decide) rfl rfl rfl ?_
  intro p e s mi below meth c C0 htab hz hK hF hC hP ls hl
  obtain ⟨hx, hb, hr, hml, hown, hts, hlocks⟩ := id C0
  have hown : s.vm.findClass RL = some mi.cls := hown
  have htab : c.exceptionTable.toList = [⟨0, 6, 7, 115⟩, ⟨0, 6, 11, 105⟩] := htab
  subst hz
  have hA : ∀ q : Nat, s.heap.size ≤ q → (va_A (bw qb cI b ++ kw qk qb qr qe qs qu qx qd cI kk) s.heap.size) q := fun q h => Or.inr h
  have hN : ∀ q : Nat, (va_A (bw qb cI b ++ kw qk qb qr qe qs qu qx qd cI kk) s.heap.size) q → N0 ≤ q := vA_N (ws := bw qb cI b ++ kw qk qb qr qe qs qu qx qd cI kk) hNa hsz
  have hD : gD (va_A (bw qb cI b ++ kw qk qb qr qe qs qu qx qd cI kk) s.heap.size) (bAd qb ++ kAd qk) := gD_vA (ws := bw qb cI b ++ kw qk qb qr qe qs qu qx qd cI kk) hDa
  have hS : va_S (va_A (bw qb cI b ++ kw qk qb qr qe qs qu qx qd cI kk) s.heap.size) s.heap s.heap [] := va_S.rf
  have hP : va_P (dC, dI) vwCl (bw qb cI b ++ kw qk qb qr qe qs qu qx qd cI kk) s.heap := hP
  refine lv_aload_n hx hb dL_heardOf_0 rfl (lv_at hl 0 rfl) ?_
  refine lv_iload_n hx hb dL_heardOf_1 rfl (lv_at hl 1 rfl) ?_
  refine lv_iload_n hx hb dL_heardOf_2 rfl (lv_at hl 2 rfl) ?_
  refine h_call (w0 := bw qb cI b ++ kw qk qb qr qe qs qu qx qd cI kk) (vx_runV (As := [.int a1, .int a2]) (rest := []) ⟨hx, hb, hml, hown, hts⟩ (mX11_heard l hfl dC dI cI cB cO cL N0 sT eA qb qk qr qe qs qu qx qd b kk a1 a2 s.heap.size hsz (gD_any hD) hNa hok) (cwV 2 hts (gT_in gQ_X11_heard_143) rfl rfl rfl (by decide +kernel) ⟨Nat.le_of_ble_eq_true rfl, Nat.le_of_ble_eq_true rfl⟩) ⟨zP_blind, va_recv hK hP (ci := 8) (q0 := 9) rfl rfl, zP_ok hP hK hF hS hN⟩ rfl rfl hl.1 rfl (lv_room (Nat.le_of_ble_eq_true rfl)) dL_heardOf_3 ⟨Nat.le_of_ble_eq_true rfl, Nat.le_of_ble_eq_true rfl⟩) (gD_va hD rfl) hS hA (fun hne q9 ce H locs hP hS hce hcv hcl => ?_) (fun h0 H locs hP hS => ?_)
  · rcases hc.resolve_left hne with hx1 | hx2
    · have hcl : s.vm.findClass "java/lang/IndexOutOfBoundsException" = some ce.cls := (congrArg (fun z => s.vm.findClass (xN z)) hx1).symm.trans hcl
      refine vx_catch (E := "java/lang/IndexOutOfBoundsException") (name := "java/lang/IndexOutOfBoundsException") hown [] ⟨0, 6, 7, 115⟩ [⟨0, 6, 11, 105⟩] htab (fun z hz => absurd hz List.not_mem_nil) rfl (by decide) (hts (.classLink RL 115 "java/lang/IndexOutOfBoundsException") (gTt tw496)) (hF.2.1.cas _ cas1) hce hcv hcl ?_
      refine lv_astore_n (lv' := [(3, .ref q9), (0, .ref (qk 0)), (1, .int a1), (2, .int a2)]) hx hb dL_heardOf_7 rfl hl (by decide) rfl (fun ls hl => ?_)
      refine lv_ldc (v := (-100000001)) hx hb hown (hts (.constant RL 63 (-100000001)) (gTt tw521)) dL_heardOf_8 ?_
      exact e_H C0 (hF_x hne hx1 rfl) hP hS rfl rfl dL_heardOf_10
    · have hcl : s.vm.findClass "java/lang/IllegalArgumentException" = some ce.cls := (congrArg (fun z => s.vm.findClass (xN z)) hx2).symm.trans hcl
      refine vx_catch (E := "java/lang/IllegalArgumentException") (name := "java/lang/IllegalArgumentException") hown [⟨0, 6, 7, 115⟩] ⟨0, 6, 11, 105⟩ [] htab (fun z hz => Or.inr (by rw [List.mem_singleton.mp hz]; exact ⟨by decide, "java/lang/IndexOutOfBoundsException", hts (.classLink RL 115 "java/lang/IndexOutOfBoundsException") (gTt tw496), hC.2.2.2.2.1⟩)) rfl (by decide) (hts (.classLink RL 105 "java/lang/IllegalArgumentException") (gTt tw297)) (hF.2.1.cas _ cas2) hce hcv hcl ?_
      refine lv_astore_n (lv' := [(3, .ref q9), (0, .ref (qk 0)), (1, .int a1), (2, .int a2)]) hx hb dL_heardOf_11 rfl hl (by decide) rfl (fun ls hl => ?_)
      refine lv_ldc (v := (-100000002)) hx hb hown (hts (.constant RL 48 (-100000002)) (gTt tw443)) dL_heardOf_12 ?_
      exact e_H C0 (hF_x hne hx2 rfl) hP hS rfl rfl dL_heardOf_14
  · exact e_H C0 (hF_0 h0) hP hS rfl rfl dL_heardOf_6
abbrev rL_manyAt : Room := { frames := 9, cells := 4, slots := 24, locals := 155 }
set_option maxHeartbeats 4000000 in
set_option maxRecDepth 100000 in
theorem mL_manyAt (l : Launch) (hfl : l.stackTraces = false) (dC : Nat → ClassId) (dI : Nat → Nat → Nat) (cI cB cO cL : ClassId) (N0 : Nat) (sT eA : Nat → Nat) (qr : Nat → Nat) (qb : Nat → Nat) (qk : Nat → Nat) (qe : Nat → Nat) (qs : Nat → Nat) (qu : Nat → Nat) (qx : Nat → Nat) (qd : Nat → Nat) (tr : TS) (b : BS) (kk : Int32) (a1 : Int32) (a2 : Int32) (a3 : Int32) (sz : Nat) (hsz : N0 ≤ sz) (hDa : gD (fun _ => True) (aAd qr ++ bAd qb ++ kAd qk)) (hNa : ∀ a ∈ (aAd qr ++ bAd qb ++ kAd qk : List Nat), N0 ≤ a) (hok : kX11_arrivals tr b kk a1 a2 a3) (hc : (pX11_arrivals tr b kk a1 a2 a3).1 = 0 ∨ (pX11_arrivals tr b kk a1 a2 a3).1 = 1 ∨ (pX11_arrivals tr b kk a1 a2 a3).1 = 2) : Met l yL_manyAt wsT_manyAt rL_manyAt (lP N0 sz sT eA (dC, dI) (tYS cI cB cO cL) (aw qr cI tr ++ bw qb cI b ++ kw qk qb qr qe qs qu qx qd cI kk) [.ref (qk 0), .int a1, .int a2, .int a3]) (hQ (dC, dI) (fun z9 : TS × BS × Int32 => aw qr cI z9.1 ++ bw qb cI z9.2.1 ++ kw qk qb qr qe qs qu qx qd cI z9.2.2) (va_A (aw qr cI tr ++ bw qb cI b ++ kw qk qb qr qe qs qu qx qd cI kk) sz) (pX11_arrivals tr b kk a1 a2 a3)) 4 24 (va_A (aw qr cI tr ++ bw qb cI b ++ kw qk qb qr qe qs qu qx qd cI kk) sz) := by
  refine lMet (cc := cL_manyAt) (maxL := 5) (ret := some .int) (hh := [(0, 7, 8, 115), (0, 7, 13, 105)]) [(0, .ref (qk 0)), (1, .int a1), (2, .int a2), (3, .int a3)] (by decide) rfl rfl rfl ?_
  intro p e s mi below meth c C0 htab hz hK hF hC hP ls hl
  obtain ⟨hx, hb, hr, hml, hown, hts, hlocks⟩ := id C0
  have hown : s.vm.findClass RL = some mi.cls := hown
  have htab : c.exceptionTable.toList = [⟨0, 7, 8, 115⟩, ⟨0, 7, 13, 105⟩] := htab
  subst hz
  have hA : ∀ q : Nat, s.heap.size ≤ q → (va_A (aw qr cI tr ++ bw qb cI b ++ kw qk qb qr qe qs qu qx qd cI kk) s.heap.size) q := fun q h => Or.inr h
  have hN : ∀ q : Nat, (va_A (aw qr cI tr ++ bw qb cI b ++ kw qk qb qr qe qs qu qx qd cI kk) s.heap.size) q → N0 ≤ q := vA_N (ws := aw qr cI tr ++ bw qb cI b ++ kw qk qb qr qe qs qu qx qd cI kk) hNa hsz
  have hD : gD (va_A (aw qr cI tr ++ bw qb cI b ++ kw qk qb qr qe qs qu qx qd cI kk) s.heap.size) (aAd qr ++ bAd qb ++ kAd qk) := gD_vA (ws := aw qr cI tr ++ bw qb cI b ++ kw qk qb qr qe qs qu qx qd cI kk) hDa
  have hS : va_S (va_A (aw qr cI tr ++ bw qb cI b ++ kw qk qb qr qe qs qu qx qd cI kk) s.heap.size) s.heap s.heap [] := va_S.rf
  have hP : va_P (dC, dI) vwCl (aw qr cI tr ++ bw qb cI b ++ kw qk qb qr qe qs qu qx qd cI kk) s.heap := hP
  refine lv_aload_n hx hb dL_manyAt_0 rfl (lv_at hl 0 rfl) ?_
  refine lv_iload_n hx hb dL_manyAt_1 rfl (lv_at hl 1 rfl) ?_
  refine lv_iload_n hx hb dL_manyAt_2 rfl (lv_at hl 2 rfl) ?_
  refine lv_iload_n hx hb dL_manyAt_3 rfl (lv_at hl 3 rfl) ?_
  refine h_call (w0 := aw qr cI tr ++ bw qb cI b ++ kw qk qb qr qe qs qu qx qd cI kk) (vx_runV (As := [.int a1, .int a2, .int a3]) (rest := []) ⟨hx, hb, hml, hown, hts⟩ (mX11_arrivals l hfl dC dI cI cB cO cL N0 sT eA qr qb qk qe qs qu qx qd tr b kk a1 a2 a3 s.heap.size hsz (gD_any hD) hNa hok) (cwV 3 hts (gT_in gQ_X11_arrivals_146) rfl rfl rfl (by decide +kernel) ⟨Nat.le_of_ble_eq_true rfl, Nat.le_of_ble_eq_true rfl⟩) ⟨zP_blind, va_recv hK hP (ci := 8) (q0 := 12) rfl rfl, zP_ok hP hK hF hS hN⟩ rfl rfl hl.1 rfl (lv_room (Nat.le_of_ble_eq_true rfl)) dL_manyAt_4 ⟨Nat.le_of_ble_eq_true rfl, Nat.le_of_ble_eq_true rfl⟩) (gD_va hD rfl) hS hA (fun hne q9 ce H locs hP hS hce hcv hcl => ?_) (fun h0 H locs hP hS => ?_)
  · rcases hc.resolve_left hne with hx1 | hx2
    · have hcl : s.vm.findClass "java/lang/IndexOutOfBoundsException" = some ce.cls := (congrArg (fun z => s.vm.findClass (xN z)) hx1).symm.trans hcl
      refine vx_catch (E := "java/lang/IndexOutOfBoundsException") (name := "java/lang/IndexOutOfBoundsException") hown [] ⟨0, 7, 8, 115⟩ [⟨0, 7, 13, 105⟩] htab (fun z hz => absurd hz List.not_mem_nil) rfl (by decide) (hts (.classLink RL 115 "java/lang/IndexOutOfBoundsException") (gTt tw496)) (hF.2.1.cas _ cas1) hce hcv hcl ?_
      refine lv_astore (lv' := [(4, .ref q9), (0, .ref (qk 0)), (1, .int a1), (2, .int a2), (3, .int a3)]) hx hb dL_manyAt_8 hl (by decide) rfl (fun ls hl => ?_)
      refine lv_ldc (v := (-100000001)) hx hb hown (hts (.constant RL 63 (-100000001)) (gTt tw521)) dL_manyAt_10 ?_
      exact e_H C0 (hF_x hne hx1 rfl) hP hS rfl rfl dL_manyAt_12
    · have hcl : s.vm.findClass "java/lang/IllegalArgumentException" = some ce.cls := (congrArg (fun z => s.vm.findClass (xN z)) hx2).symm.trans hcl
      refine vx_catch (E := "java/lang/IllegalArgumentException") (name := "java/lang/IllegalArgumentException") hown [⟨0, 7, 8, 115⟩] ⟨0, 7, 13, 105⟩ [] htab (fun z hz => Or.inr (by rw [List.mem_singleton.mp hz]; exact ⟨by decide, "java/lang/IndexOutOfBoundsException", hts (.classLink RL 115 "java/lang/IndexOutOfBoundsException") (gTt tw496), hC.2.2.2.2.1⟩)) rfl (by decide) (hts (.classLink RL 105 "java/lang/IllegalArgumentException") (gTt tw297)) (hF.2.1.cas _ cas2) hce hcv hcl ?_
      refine lv_astore (lv' := [(4, .ref q9), (0, .ref (qk 0)), (1, .int a1), (2, .int a2), (3, .int a3)]) hx hb dL_manyAt_13 hl (by decide) rfl (fun ls hl => ?_)
      refine lv_ldc (v := (-100000002)) hx hb hown (hts (.constant RL 48 (-100000002)) (gTt tw443)) dL_manyAt_15 ?_
      exact e_H C0 (hF_x hne hx2 rfl) hP hS rfl rfl dL_manyAt_17
  · exact e_H C0 (hF_0 h0) hP hS rfl rfl dL_manyAt_7
abbrev rL_atOf : Room := { frames := 9, cells := 4, slots := 24, locals := 157 }
set_option maxHeartbeats 4000000 in
set_option maxRecDepth 100000 in
theorem mL_atOf (l : Launch) (hfl : l.stackTraces = false) (dC : Nat → ClassId) (dI : Nat → Nat → Nat) (cI cB cO cL : ClassId) (N0 : Nat) (sT eA : Nat → Nat) (qr : Nat → Nat) (qb : Nat → Nat) (qk : Nat → Nat) (qe : Nat → Nat) (qs : Nat → Nat) (qu : Nat → Nat) (qx : Nat → Nat) (qd : Nat → Nat) (tr : TS) (b : BS) (kk : Int32) (a1 : Int32) (a2 : Int32) (a3 : Int32) (a4 : Int32) (a5 : Int32) (sz : Nat) (hsz : N0 ≤ sz) (hDa : gD (fun _ => True) (aAd qr ++ bAd qb ++ kAd qk)) (hNa : ∀ a ∈ (aAd qr ++ bAd qb ++ kAd qk : List Nat), N0 ≤ a) (hok : kX11_arrival tr b kk a1 a2 a3 a4 a5) (hc : (pX11_arrival tr b kk a1 a2 a3 a4 a5).1 = 0 ∨ (pX11_arrival tr b kk a1 a2 a3 a4 a5).1 = 1 ∨ (pX11_arrival tr b kk a1 a2 a3 a4 a5).1 = 2) : Met l yL_atOf wsT_atOf rL_atOf (lP N0 sz sT eA (dC, dI) (tYS cI cB cO cL) (aw qr cI tr ++ bw qb cI b ++ kw qk qb qr qe qs qu qx qd cI kk) [.ref (qk 0), .int a1, .int a2, .int a3, .int a4, .int a5]) (hQ (dC, dI) (fun z9 : TS × BS × Int32 => aw qr cI z9.1 ++ bw qb cI z9.2.1 ++ kw qk qb qr qe qs qu qx qd cI z9.2.2) (va_A (aw qr cI tr ++ bw qb cI b ++ kw qk qb qr qe qs qu qx qd cI kk) sz) (pX11_arrival tr b kk a1 a2 a3 a4 a5)) 4 24 (va_A (aw qr cI tr ++ bw qb cI b ++ kw qk qb qr qe qs qu qx qd cI kk) sz) := by
  refine lMet (cc := cL_atOf) (maxL := 7) (ret := some .int) (hh := [(0, 11, 12, 115), (0, 11, 17, 105)]) [(0, .ref (qk 0)), (1, .int a1), (2, .int a2), (3, .int a3), (4, .int a4), (5, .int a5)] (by decide) rfl rfl rfl ?_
  intro p e s mi below meth c C0 htab hz hK hF hC hP ls hl
  obtain ⟨hx, hb, hr, hml, hown, hts, hlocks⟩ := id C0
  have hown : s.vm.findClass RL = some mi.cls := hown
  have htab : c.exceptionTable.toList = [⟨0, 11, 12, 115⟩, ⟨0, 11, 17, 105⟩] := htab
  subst hz
  have hA : ∀ q : Nat, s.heap.size ≤ q → (va_A (aw qr cI tr ++ bw qb cI b ++ kw qk qb qr qe qs qu qx qd cI kk) s.heap.size) q := fun q h => Or.inr h
  have hN : ∀ q : Nat, (va_A (aw qr cI tr ++ bw qb cI b ++ kw qk qb qr qe qs qu qx qd cI kk) s.heap.size) q → N0 ≤ q := vA_N (ws := aw qr cI tr ++ bw qb cI b ++ kw qk qb qr qe qs qu qx qd cI kk) hNa hsz
  have hD : gD (va_A (aw qr cI tr ++ bw qb cI b ++ kw qk qb qr qe qs qu qx qd cI kk) s.heap.size) (aAd qr ++ bAd qb ++ kAd qk) := gD_vA (ws := aw qr cI tr ++ bw qb cI b ++ kw qk qb qr qe qs qu qx qd cI kk) hDa
  have hS : va_S (va_A (aw qr cI tr ++ bw qb cI b ++ kw qk qb qr qe qs qu qx qd cI kk) s.heap.size) s.heap s.heap [] := va_S.rf
  have hP : va_P (dC, dI) vwCl (aw qr cI tr ++ bw qb cI b ++ kw qk qb qr qe qs qu qx qd cI kk) s.heap := hP
  refine lv_aload_n hx hb dL_atOf_0 rfl (lv_at hl 0 rfl) ?_
  refine lv_iload_n hx hb dL_atOf_1 rfl (lv_at hl 1 rfl) ?_
  refine lv_iload_n hx hb dL_atOf_2 rfl (lv_at hl 2 rfl) ?_
  refine lv_iload_n hx hb dL_atOf_3 rfl (lv_at hl 3 rfl) ?_
  refine lv_iload hx hb dL_atOf_4 (lv_at hl 4 rfl) ?_
  refine lv_iload hx hb dL_atOf_6 (lv_at hl 5 rfl) ?_
  refine h_call (w0 := aw qr cI tr ++ bw qb cI b ++ kw qk qb qr qe qs qu qx qd cI kk) (vx_runV (As := [.int a1, .int a2, .int a3, .int a4, .int a5]) (rest := []) ⟨hx, hb, hml, hown, hts⟩ (mX11_arrival l hfl dC dI cI cB cO cL N0 sT eA qr qb qk qe qs qu qx qd tr b kk a1 a2 a3 a4 a5 s.heap.size hsz (gD_any hD) hNa hok) (cwV 5 hts (gT_in gQ_X11_arrival_149) rfl rfl rfl (by decide +kernel) ⟨Nat.le_of_ble_eq_true rfl, Nat.le_of_ble_eq_true rfl⟩) ⟨zP_blind, va_recv hK hP (ci := 8) (q0 := 12) rfl rfl, zP_ok hP hK hF hS hN⟩ rfl rfl hl.1 rfl (lv_room (Nat.le_of_ble_eq_true rfl)) dL_atOf_8 ⟨Nat.le_of_ble_eq_true rfl, Nat.le_of_ble_eq_true rfl⟩) (gD_va hD rfl) hS hA (fun hne q9 ce H locs hP hS hce hcv hcl => ?_) (fun h0 H locs hP hS => ?_)
  · rcases hc.resolve_left hne with hx1 | hx2
    · have hcl : s.vm.findClass "java/lang/IndexOutOfBoundsException" = some ce.cls := (congrArg (fun z => s.vm.findClass (xN z)) hx1).symm.trans hcl
      refine vx_catch (E := "java/lang/IndexOutOfBoundsException") (name := "java/lang/IndexOutOfBoundsException") hown [] ⟨0, 11, 12, 115⟩ [⟨0, 11, 17, 105⟩] htab (fun z hz => absurd hz List.not_mem_nil) rfl (by decide) (hts (.classLink RL 115 "java/lang/IndexOutOfBoundsException") (gTt tw496)) (hF.2.1.cas _ cas1) hce hcv hcl ?_
      refine lv_astore (lv' := [(6, .ref q9), (0, .ref (qk 0)), (1, .int a1), (2, .int a2), (3, .int a3), (4, .int a4), (5, .int a5)]) hx hb dL_atOf_12 hl (by decide) rfl (fun ls hl => ?_)
      refine lv_ldc (v := (-100000001)) hx hb hown (hts (.constant RL 63 (-100000001)) (gTt tw521)) dL_atOf_14 ?_
      exact e_H C0 (hF_x hne hx1 rfl) hP hS rfl rfl dL_atOf_16
    · have hcl : s.vm.findClass "java/lang/IllegalArgumentException" = some ce.cls := (congrArg (fun z => s.vm.findClass (xN z)) hx2).symm.trans hcl
      refine vx_catch (E := "java/lang/IllegalArgumentException") (name := "java/lang/IllegalArgumentException") hown [⟨0, 11, 12, 115⟩] ⟨0, 11, 17, 105⟩ [] htab (fun z hz => Or.inr (by rw [List.mem_singleton.mp hz]; exact ⟨by decide, "java/lang/IndexOutOfBoundsException", hts (.classLink RL 115 "java/lang/IndexOutOfBoundsException") (gTt tw496), hC.2.2.2.2.1⟩)) rfl (by decide) (hts (.classLink RL 105 "java/lang/IllegalArgumentException") (gTt tw297)) (hF.2.1.cas _ cas2) hce hcv hcl ?_
      refine lv_astore (lv' := [(6, .ref q9), (0, .ref (qk 0)), (1, .int a1), (2, .int a2), (3, .int a3), (4, .int a4), (5, .int a5)]) hx hb dL_atOf_17 hl (by decide) rfl (fun ls hl => ?_)
      refine lv_ldc (v := (-100000002)) hx hb hown (hts (.constant RL 48 (-100000002)) (gTt tw443)) dL_atOf_19 ?_
      exact e_H C0 (hF_x hne hx2 rfl) hP hS rfl rfl dL_atOf_21
  · exact e_H C0 (hF_0 h0) hP hS rfl rfl dL_atOf_11
abbrev rL_delayOf : Room := { frames := 9, cells := 4, slots := 24, locals := 154 }
set_option maxHeartbeats 4000000 in
set_option maxRecDepth 100000 in
theorem mL_delayOf (l : Launch) (hfl : l.stackTraces = false) (dC : Nat → ClassId) (dI : Nat → Nat → Nat) (cI cB cO cL : ClassId) (N0 : Nat) (sT eA : Nat → Nat) (qb : Nat → Nat) (qk : Nat → Nat) (qr : Nat → Nat) (qe : Nat → Nat) (qs : Nat → Nat) (qu : Nat → Nat) (qx : Nat → Nat) (qd : Nat → Nat) (b : BS) (kk : Int32) (a1 : Int32) (a2 : Int32) (sz : Nat) (hsz : N0 ≤ sz) (hDa : gD (fun _ => True) (bAd qb ++ kAd qk)) (hNa : ∀ a ∈ (bAd qb ++ kAd qk : List Nat), N0 ≤ a) (hok : kX11_delay b kk a1 a2) (hc : (pX11_delay b kk a1 a2).1 = 0 ∨ (pX11_delay b kk a1 a2).1 = 1 ∨ (pX11_delay b kk a1 a2).1 = 2) : Met l yL_delayOf wsT_delayOf rL_delayOf (lP N0 sz sT eA (dC, dI) (tYS cI cB cO cL) (bw qb cI b ++ kw qk qb qr qe qs qu qx qd cI kk) [.ref (qk 0), .int a1, .int a2]) (hQ (dC, dI) (fun z9 : BS × Int32 => bw qb cI z9.1 ++ kw qk qb qr qe qs qu qx qd cI z9.2) (va_A (bw qb cI b ++ kw qk qb qr qe qs qu qx qd cI kk) sz) (pX11_delay b kk a1 a2)) 4 24 (va_A (bw qb cI b ++ kw qk qb qr qe qs qu qx qd cI kk) sz) := by
  refine lMet (cc := cL_delayOf) (maxL := 4) (ret := some .int) (hh := [(0, 6, 7, 115), (0, 6, 11, 105)]) [(0, .ref (qk 0)), (1, .int a1), (2, .int a2)] (by decide) rfl rfl rfl ?_
  intro p e s mi below meth c C0 htab hz hK hF hC hP ls hl
  obtain ⟨hx, hb, hr, hml, hown, hts, hlocks⟩ := id C0
  have hown : s.vm.findClass RL = some mi.cls := hown
  have htab : c.exceptionTable.toList = [⟨0, 6, 7, 115⟩, ⟨0, 6, 11, 105⟩] := htab
  subst hz
  have hA : ∀ q : Nat, s.heap.size ≤ q → (va_A (bw qb cI b ++ kw qk qb qr qe qs qu qx qd cI kk) s.heap.size) q := fun q h => Or.inr h
  have hN : ∀ q : Nat, (va_A (bw qb cI b ++ kw qk qb qr qe qs qu qx qd cI kk) s.heap.size) q → N0 ≤ q := vA_N (ws := bw qb cI b ++ kw qk qb qr qe qs qu qx qd cI kk) hNa hsz
  have hD : gD (va_A (bw qb cI b ++ kw qk qb qr qe qs qu qx qd cI kk) s.heap.size) (bAd qb ++ kAd qk) := gD_vA (ws := bw qb cI b ++ kw qk qb qr qe qs qu qx qd cI kk) hDa
  have hS : va_S (va_A (bw qb cI b ++ kw qk qb qr qe qs qu qx qd cI kk) s.heap.size) s.heap s.heap [] := va_S.rf
  have hP : va_P (dC, dI) vwCl (bw qb cI b ++ kw qk qb qr qe qs qu qx qd cI kk) s.heap := hP
  refine lv_aload_n hx hb dL_delayOf_0 rfl (lv_at hl 0 rfl) ?_
  refine lv_iload_n hx hb dL_delayOf_1 rfl (lv_at hl 1 rfl) ?_
  refine lv_iload_n hx hb dL_delayOf_2 rfl (lv_at hl 2 rfl) ?_
  refine h_call (w0 := bw qb cI b ++ kw qk qb qr qe qs qu qx qd cI kk) (vx_runV (As := [.int a1, .int a2]) (rest := []) ⟨hx, hb, hml, hown, hts⟩ (mX11_delay l hfl dC dI cI cB cO cL N0 sT eA qb qk qr qe qs qu qx qd b kk a1 a2 s.heap.size hsz (gD_any hD) hNa hok) (cwV 2 hts (gT_in gQ_X11_delay_153) rfl rfl rfl (by decide +kernel) ⟨Nat.le_of_ble_eq_true rfl, Nat.le_of_ble_eq_true rfl⟩) ⟨zP_blind, va_recv hK hP (ci := 8) (q0 := 9) rfl rfl, zP_ok hP hK hF hS hN⟩ rfl rfl hl.1 rfl (lv_room (Nat.le_of_ble_eq_true rfl)) dL_delayOf_3 ⟨Nat.le_of_ble_eq_true rfl, Nat.le_of_ble_eq_true rfl⟩) (gD_va hD rfl) hS hA (fun hne q9 ce H locs hP hS hce hcv hcl => ?_) (fun h0 H locs hP hS => ?_)
  · rcases hc.resolve_left hne with hx1 | hx2
    · have hcl : s.vm.findClass "java/lang/IndexOutOfBoundsException" = some ce.cls := (congrArg (fun z => s.vm.findClass (xN z)) hx1).symm.trans hcl
      refine vx_catch (E := "java/lang/IndexOutOfBoundsException") (name := "java/lang/IndexOutOfBoundsException") hown [] ⟨0, 6, 7, 115⟩ [⟨0, 6, 11, 105⟩] htab (fun z hz => absurd hz List.not_mem_nil) rfl (by decide) (hts (.classLink RL 115 "java/lang/IndexOutOfBoundsException") (gTt tw496)) (hF.2.1.cas _ cas1) hce hcv hcl ?_
      refine lv_astore_n (lv' := [(3, .ref q9), (0, .ref (qk 0)), (1, .int a1), (2, .int a2)]) hx hb dL_delayOf_7 rfl hl (by decide) rfl (fun ls hl => ?_)
      refine lv_ldc (v := (-100000001)) hx hb hown (hts (.constant RL 63 (-100000001)) (gTt tw521)) dL_delayOf_8 ?_
      exact e_H C0 (hF_x hne hx1 rfl) hP hS rfl rfl dL_delayOf_10
    · have hcl : s.vm.findClass "java/lang/IllegalArgumentException" = some ce.cls := (congrArg (fun z => s.vm.findClass (xN z)) hx2).symm.trans hcl
      refine vx_catch (E := "java/lang/IllegalArgumentException") (name := "java/lang/IllegalArgumentException") hown [⟨0, 6, 7, 115⟩] ⟨0, 6, 11, 105⟩ [] htab (fun z hz => Or.inr (by rw [List.mem_singleton.mp hz]; exact ⟨by decide, "java/lang/IndexOutOfBoundsException", hts (.classLink RL 115 "java/lang/IndexOutOfBoundsException") (gTt tw496), hC.2.2.2.2.1⟩)) rfl (by decide) (hts (.classLink RL 105 "java/lang/IllegalArgumentException") (gTt tw297)) (hF.2.1.cas _ cas2) hce hcv hcl ?_
      refine lv_astore_n (lv' := [(3, .ref q9), (0, .ref (qk 0)), (1, .int a1), (2, .int a2)]) hx hb dL_delayOf_11 rfl hl (by decide) rfl (fun ls hl => ?_)
      refine lv_ldc (v := (-100000002)) hx hb hown (hts (.constant RL 48 (-100000002)) (gTt tw443)) dL_delayOf_12 ?_
      exact e_H C0 (hF_x hne hx2 rfl) hP hS rfl rfl dL_delayOf_14
  · exact e_H C0 (hF_0 h0) hP hS rfl rfl dL_delayOf_6
abbrev rL_wholeOf : Room := { frames := 9, cells := 4, slots := 24, locals := 169 }
set_option maxHeartbeats 4000000 in
set_option maxRecDepth 100000 in
theorem mL_wholeOf (l : Launch) (hfl : l.stackTraces = false) (dC : Nat → ClassId) (dI : Nat → Nat → Nat) (cI cB cO cL : ClassId) (N0 : Nat) (sT eA : Nat → Nat) (qs : Nat → Nat) (qb : Nat → Nat) (qk : Nat → Nat) (qr : Nat → Nat) (qe : Nat → Nat) (qu : Nat → Nat) (qx : Nat → Nat) (qd : Nat → Nat) (s9 : SS) (b : BS) (kk : Int32) (a1 : Int32) (sz : Nat) (hsz : N0 ≤ sz) (hDa : gD (fun _ => True) (sAd qs ++ bAd qb ++ kAd qk)) (hNa : ∀ a ∈ (sAd qs ++ bAd qb ++ kAd qk : List Nat), N0 ≤ a) (hok : kX11_whole s9 b kk a1) (hc : (pX11_whole s9 b kk a1).1 = 0 ∨ (pX11_whole s9 b kk a1).1 = 2) : Met l yL_wholeOf wsT_wholeOf rL_wholeOf (lP N0 sz sT eA (dC, dI) (tYS cI cB cO cL) (sw qs cI s9 ++ bw qb cI b ++ kw qk qb qr qe qs qu qx qd cI kk) [.ref (qk 0), .int a1]) (hQ (dC, dI) (fun z9 : SS × BS × Int32 => sw qs cI z9.1 ++ bw qb cI z9.2.1 ++ kw qk qb qr qe qs qu qx qd cI z9.2.2) (va_A (sw qs cI s9 ++ bw qb cI b ++ kw qk qb qr qe qs qu qx qd cI kk) sz) (pX11_whole s9 b kk a1)) 4 24 (va_A (sw qs cI s9 ++ bw qb cI b ++ kw qk qb qr qe qs qu qx qd cI kk) sz) := by
  refine lMet (cc := cL_wholeOf) (maxL := 3) (ret := some .int) (hh := [(0, 5, 6, 105)]) [(0, .ref (qk 0)), (1, .int a1)] (by decide) rfl rfl rfl ?_
  intro p e s mi below meth c C0 htab hz hK hF hC hP ls hl
  obtain ⟨hx, hb, hr, hml, hown, hts, hlocks⟩ := id C0
  have hown : s.vm.findClass RL = some mi.cls := hown
  have htab : c.exceptionTable.toList = [⟨0, 5, 6, 105⟩] := htab
  subst hz
  have hA : ∀ q : Nat, s.heap.size ≤ q → (va_A (sw qs cI s9 ++ bw qb cI b ++ kw qk qb qr qe qs qu qx qd cI kk) s.heap.size) q := fun q h => Or.inr h
  have hN : ∀ q : Nat, (va_A (sw qs cI s9 ++ bw qb cI b ++ kw qk qb qr qe qs qu qx qd cI kk) s.heap.size) q → N0 ≤ q := vA_N (ws := sw qs cI s9 ++ bw qb cI b ++ kw qk qb qr qe qs qu qx qd cI kk) hNa hsz
  have hD : gD (va_A (sw qs cI s9 ++ bw qb cI b ++ kw qk qb qr qe qs qu qx qd cI kk) s.heap.size) (sAd qs ++ bAd qb ++ kAd qk) := gD_vA (ws := sw qs cI s9 ++ bw qb cI b ++ kw qk qb qr qe qs qu qx qd cI kk) hDa
  have hS : va_S (va_A (sw qs cI s9 ++ bw qb cI b ++ kw qk qb qr qe qs qu qx qd cI kk) s.heap.size) s.heap s.heap [] := va_S.rf
  have hP : va_P (dC, dI) vwCl (sw qs cI s9 ++ bw qb cI b ++ kw qk qb qr qe qs qu qx qd cI kk) s.heap := hP
  refine lv_aload_n hx hb dL_wholeOf_0 rfl (lv_at hl 0 rfl) ?_
  refine lv_iload_n hx hb dL_wholeOf_1 rfl (lv_at hl 1 rfl) ?_
  refine h_call (w0 := sw qs cI s9 ++ bw qb cI b ++ kw qk qb qr qe qs qu qx qd cI kk) (vx_runV (As := [.int a1]) (rest := []) ⟨hx, hb, hml, hown, hts⟩ (mX11_whole l hfl dC dI cI cB cO cL N0 sT eA qs qb qk qr qe qu qx qd s9 b kk a1 s.heap.size hsz (gD_any hD) hNa hok) (cwV 1 hts (gT_in gQ_X11_whole_156) rfl rfl rfl (by decide +kernel) ⟨Nat.le_of_ble_eq_true rfl, Nat.le_of_ble_eq_true rfl⟩) ⟨zP_blind, va_recv hK hP (ci := 8) (q0 := 14) rfl rfl, zP_ok hP hK hF hS hN⟩ rfl rfl hl.1 rfl (lv_room (Nat.le_of_ble_eq_true rfl)) dL_wholeOf_2 ⟨Nat.le_of_ble_eq_true rfl, Nat.le_of_ble_eq_true rfl⟩) (gD_va hD rfl) hS hA (fun hne q9 ce H locs hP hS hce hcv hcl => ?_) (fun h0 H locs hP hS => ?_)
  · have hx2 := hc.resolve_left hne
    have hcl : s.vm.findClass "java/lang/IllegalArgumentException" = some ce.cls := (congrArg (fun z => s.vm.findClass (xN z)) hx2).symm.trans hcl
    refine vx_catch (E := "java/lang/IllegalArgumentException") (name := "java/lang/IllegalArgumentException") hown [] ⟨0, 5, 6, 105⟩ [] htab (fun z hz => absurd hz List.not_mem_nil) rfl (by decide) (hts (.classLink RL 105 "java/lang/IllegalArgumentException") (gTt tw297)) (hF.2.1.cas _ cas2) hce hcv hcl ?_
    refine lv_astore_n (lv' := [(2, .ref q9), (0, .ref (qk 0)), (1, .int a1)]) hx hb dL_wholeOf_6 rfl hl (by decide) rfl (fun ls hl => ?_)
    refine lv_ldc (v := (-100000002)) hx hb hown (hts (.constant RL 48 (-100000002)) (gTt tw443)) dL_wholeOf_7 ?_
    exact e_H C0 (hF_x hne hx2 rfl) hP hS rfl rfl dL_wholeOf_9
  · exact e_H C0 (hF_0 h0) hP hS rfl rfl dL_wholeOf_5
abbrev rL_partOf : Room := { frames := 9, cells := 4, slots := 24, locals := 156 }
set_option maxHeartbeats 4000000 in
set_option maxRecDepth 100000 in
theorem mL_partOf (l : Launch) (hfl : l.stackTraces = false) (dC : Nat → ClassId) (dI : Nat → Nat → Nat) (cI cB cO cL : ClassId) (N0 : Nat) (sT eA : Nat → Nat) (qb : Nat → Nat) (qk : Nat → Nat) (qr : Nat → Nat) (qe : Nat → Nat) (qs : Nat → Nat) (qu : Nat → Nat) (qx : Nat → Nat) (qd : Nat → Nat) (b : BS) (kk : Int32) (a1 : Int32) (a2 : Int32) (a3 : Int32) (sz : Nat) (hsz : N0 ≤ sz) (hDa : gD (fun _ => True) (bAd qb ++ kAd qk)) (hNa : ∀ a ∈ (bAd qb ++ kAd qk : List Nat), N0 ≤ a) (hok : kX11_part b kk a1 a2 a3) (hc : (pX11_part b kk a1 a2 a3).1 = 0 ∨ (pX11_part b kk a1 a2 a3).1 = 2 ∨ (pX11_part b kk a1 a2 a3).1 = 1) : Met l yL_partOf wsT_partOf rL_partOf (lP N0 sz sT eA (dC, dI) (tYS cI cB cO cL) (bw qb cI b ++ kw qk qb qr qe qs qu qx qd cI kk) [.ref (qk 0), .int a1, .int a2, .int a3]) (hQ (dC, dI) (fun z9 : BS × Int32 => bw qb cI z9.1 ++ kw qk qb qr qe qs qu qx qd cI z9.2) (va_A (bw qb cI b ++ kw qk qb qr qe qs qu qx qd cI kk) sz) (pX11_part b kk a1 a2 a3)) 4 24 (va_A (bw qb cI b ++ kw qk qb qr qe qs qu qx qd cI kk) sz) := by
  refine lMet (cc := cL_partOf) (maxL := 5) (ret := some .int) (hh := [(0, 7, 8, 105), (0, 7, 13, 115)]) [(0, .ref (qk 0)), (1, .int a1), (2, .int a2), (3, .int a3)] (by decide) rfl rfl rfl ?_
  intro p e s mi below meth c C0 htab hz hK hF hC hP ls hl
  obtain ⟨hx, hb, hr, hml, hown, hts, hlocks⟩ := id C0
  have hown : s.vm.findClass RL = some mi.cls := hown
  have htab : c.exceptionTable.toList = [⟨0, 7, 8, 105⟩, ⟨0, 7, 13, 115⟩] := htab
  subst hz
  have hA : ∀ q : Nat, s.heap.size ≤ q → (va_A (bw qb cI b ++ kw qk qb qr qe qs qu qx qd cI kk) s.heap.size) q := fun q h => Or.inr h
  have hN : ∀ q : Nat, (va_A (bw qb cI b ++ kw qk qb qr qe qs qu qx qd cI kk) s.heap.size) q → N0 ≤ q := vA_N (ws := bw qb cI b ++ kw qk qb qr qe qs qu qx qd cI kk) hNa hsz
  have hD : gD (va_A (bw qb cI b ++ kw qk qb qr qe qs qu qx qd cI kk) s.heap.size) (bAd qb ++ kAd qk) := gD_vA (ws := bw qb cI b ++ kw qk qb qr qe qs qu qx qd cI kk) hDa
  have hS : va_S (va_A (bw qb cI b ++ kw qk qb qr qe qs qu qx qd cI kk) s.heap.size) s.heap s.heap [] := va_S.rf
  have hP : va_P (dC, dI) vwCl (bw qb cI b ++ kw qk qb qr qe qs qu qx qd cI kk) s.heap := hP
  refine lv_aload_n hx hb dL_partOf_0 rfl (lv_at hl 0 rfl) ?_
  refine lv_iload_n hx hb dL_partOf_1 rfl (lv_at hl 1 rfl) ?_
  refine lv_iload_n hx hb dL_partOf_2 rfl (lv_at hl 2 rfl) ?_
  refine lv_iload_n hx hb dL_partOf_3 rfl (lv_at hl 3 rfl) ?_
  refine h_call (w0 := bw qb cI b ++ kw qk qb qr qe qs qu qx qd cI kk) (vx_runV (As := [.int a1, .int a2, .int a3]) (rest := []) ⟨hx, hb, hml, hown, hts⟩ (mX11_part l hfl dC dI cI cB cO cL N0 sT eA qb qk qr qe qs qu qx qd b kk a1 a2 a3 s.heap.size hsz (gD_any hD) hNa hok) (cwV 3 hts (gT_in gQ_X11_part_159) rfl rfl rfl (by decide +kernel) ⟨Nat.le_of_ble_eq_true rfl, Nat.le_of_ble_eq_true rfl⟩) ⟨zP_blind, va_recv hK hP (ci := 8) (q0 := 9) rfl rfl, zP_ok hP hK hF hS hN⟩ rfl rfl hl.1 rfl (lv_room (Nat.le_of_ble_eq_true rfl)) dL_partOf_4 ⟨Nat.le_of_ble_eq_true rfl, Nat.le_of_ble_eq_true rfl⟩) (gD_va hD rfl) hS hA (fun hne q9 ce H locs hP hS hce hcv hcl => ?_) (fun h0 H locs hP hS => ?_)
  · rcases hc.resolve_left hne with hx2 | hx1
    · have hcl : s.vm.findClass "java/lang/IllegalArgumentException" = some ce.cls := (congrArg (fun z => s.vm.findClass (xN z)) hx2).symm.trans hcl
      refine vx_catch (E := "java/lang/IllegalArgumentException") (name := "java/lang/IllegalArgumentException") hown [] ⟨0, 7, 8, 105⟩ [⟨0, 7, 13, 115⟩] htab (fun z hz => absurd hz List.not_mem_nil) rfl (by decide) (hts (.classLink RL 105 "java/lang/IllegalArgumentException") (gTt tw297)) (hF.2.1.cas _ cas2) hce hcv hcl ?_
      refine lv_astore (lv' := [(4, .ref q9), (0, .ref (qk 0)), (1, .int a1), (2, .int a2), (3, .int a3)]) hx hb dL_partOf_8 hl (by decide) rfl (fun ls hl => ?_)
      refine lv_ldc (v := (-100000002)) hx hb hown (hts (.constant RL 48 (-100000002)) (gTt tw443)) dL_partOf_10 ?_
      exact e_H C0 (hF_x hne hx2 rfl) hP hS rfl rfl dL_partOf_12
    · have hcl : s.vm.findClass "java/lang/IndexOutOfBoundsException" = some ce.cls := (congrArg (fun z => s.vm.findClass (xN z)) hx1).symm.trans hcl
      refine vx_catch (E := "java/lang/IndexOutOfBoundsException") (name := "java/lang/IndexOutOfBoundsException") hown [⟨0, 7, 8, 105⟩] ⟨0, 7, 13, 115⟩ [] htab (fun z hz => Or.inr (by rw [List.mem_singleton.mp hz]; exact ⟨by decide, "java/lang/IllegalArgumentException", hts (.classLink RL 105 "java/lang/IllegalArgumentException") (gTt tw297), hC.1⟩)) rfl (by decide) (hts (.classLink RL 115 "java/lang/IndexOutOfBoundsException") (gTt tw496)) (hF.2.1.cas _ cas1) hce hcv hcl ?_
      refine lv_astore (lv' := [(4, .ref q9), (0, .ref (qk 0)), (1, .int a1), (2, .int a2), (3, .int a3)]) hx hb dL_partOf_13 hl (by decide) rfl (fun ls hl => ?_)
      refine lv_ldc (v := (-100000001)) hx hb hown (hts (.constant RL 63 (-100000001)) (gTt tw521)) dL_partOf_15 ?_
      exact e_H C0 (hF_x hne hx1 rfl) hP hS rfl rfl dL_partOf_17
  · exact e_H C0 (hF_0 h0) hP hS rfl rfl dL_partOf_7
end HLP1
