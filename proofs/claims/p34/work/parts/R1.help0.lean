/-! THE LAW: its helpers (0) -/
section HLP0
abbrev rL_begins : Room := { frames := 8, cells := 4, slots := 24, locals := 146 }
set_option maxHeartbeats 4000000 in
set_option maxRecDepth 100000 in
theorem mL_begins (l : Launch) (hfl : l.stackTraces = false) (dC : Nat → ClassId) (dI : Nat → Nat → Nat) (cI cB cO cL : ClassId) (N0 : Nat) (sT eA : Nat → Nat) (qb : Nat → Nat) (qs : Nat → Nat) (qu : Nat → Nat) (qk : Nat → Nat) (qr : Nat → Nat) (qe : Nat → Nat) (qx : Nat → Nat) (qd : Nat → Nat) (b : BS) (s9 : SS) (u : US) (kk : Int32) (a1 : Int32) (a2 : Int32) (sz : Nat) (hsz : N0 ≤ sz) (hDa : gD (fun _ => True) (bAd qb ++ sAd qs ++ uAd qu ++ kAd qk)) (hNa : ∀ a ∈ (bAd qb ++ sAd qs ++ uAd qu ++ kAd qk : List Nat), N0 ≤ a) (hok : kX11_begin b s9 u kk a1 a2) (hc : (pX11_begin b s9 u kk a1 a2).1 = 0 ∨ (pX11_begin b s9 u kk a1 a2).1 = 2) : Met l yL_begins wsT_begins rL_begins (lP N0 sz sT eA (dC, dI) (tYS cI cB cO cL) (bw qb cI b ++ sw qs cI s9 ++ uw qu cI cB u ++ kw qk qb qr qe qs qu qx qd cI kk) [.ref (qk 0), .int a1, .int a2]) (hQ (dC, dI) (fun z9 : BS × SS × US × Int32 => bw qb cI z9.1 ++ sw qs cI z9.2.1 ++ uw qu cI cB z9.2.2.1 ++ kw qk qb qr qe qs qu qx qd cI z9.2.2.2) (va_A (bw qb cI b ++ sw qs cI s9 ++ uw qu cI cB u ++ kw qk qb qr qe qs qu qx qd cI kk) sz) (pX11_begin b s9 u kk a1 a2)) 4 24 (va_A (bw qb cI b ++ sw qs cI s9 ++ uw qu cI cB u ++ kw qk qb qr qe qs qu qx qd cI kk) sz) := by
  refine lMet (cc := cL_begins) (maxL := 4) (ret := some .int) (hh := [(0, 6, 7, 105)]) [(0, .ref (qk 0)), (1, .int a1), (2, .int a2)] (by decide) rfl rfl rfl ?_
  intro p e s mi below meth c C0 htab hz hK hF hC hP ls hl
  obtain ⟨hx, hb, hr, hml, hown, hts, hlocks⟩ := id C0
  have hown : s.vm.findClass RL = some mi.cls := hown
  have htab : c.exceptionTable.toList = [⟨0, 6, 7, 105⟩] := htab
  subst hz
  have hA : ∀ q : Nat, s.heap.size ≤ q → (va_A (bw qb cI b ++ sw qs cI s9 ++ uw qu cI cB u ++ kw qk qb qr qe qs qu qx qd cI kk) s.heap.size) q := fun q h => Or.inr h
  have hN : ∀ q : Nat, (va_A (bw qb cI b ++ sw qs cI s9 ++ uw qu cI cB u ++ kw qk qb qr qe qs qu qx qd cI kk) s.heap.size) q → N0 ≤ q := vA_N (ws := bw qb cI b ++ sw qs cI s9 ++ uw qu cI cB u ++ kw qk qb qr qe qs qu qx qd cI kk) hNa hsz
  have hD : gD (va_A (bw qb cI b ++ sw qs cI s9 ++ uw qu cI cB u ++ kw qk qb qr qe qs qu qx qd cI kk) s.heap.size) (bAd qb ++ sAd qs ++ uAd qu ++ kAd qk) := gD_vA (ws := bw qb cI b ++ sw qs cI s9 ++ uw qu cI cB u ++ kw qk qb qr qe qs qu qx qd cI kk) hDa
  have hS : va_S (va_A (bw qb cI b ++ sw qs cI s9 ++ uw qu cI cB u ++ kw qk qb qr qe qs qu qx qd cI kk) s.heap.size) s.heap s.heap [] := va_S.rf
  have hP : va_P (dC, dI) vwCl (bw qb cI b ++ sw qs cI s9 ++ uw qu cI cB u ++ kw qk qb qr qe qs qu qx qd cI kk) s.heap := hP
  refine lv_aload_n hx hb dL_begins_0 rfl (lv_at hl 0 rfl) ?_
  refine lv_iload_n hx hb dL_begins_1 rfl (lv_at hl 1 rfl) ?_
  refine lv_iload_n hx hb dL_begins_2 rfl (lv_at hl 2 rfl) ?_
  refine h_call (w0 := bw qb cI b ++ sw qs cI s9 ++ uw qu cI cB u ++ kw qk qb qr qe qs qu qx qd cI kk) (vx_runV (As := [.int a1, .int a2]) (rest := []) ⟨hx, hb, hml, hown, hts⟩ (mX11_begin l hfl dC dI cI cB cO cL N0 sT eA qb qs qu qk qr qe qx qd b s9 u kk a1 a2 s.heap.size hsz (gD_any hD) hNa hok) (cwV 2 hts (gT_in gQ_X11_begin_100) rfl rfl rfl (by decide +kernel) ⟨Nat.le_of_ble_eq_true rfl, Nat.le_of_ble_eq_true rfl⟩) ⟨zP_blind, va_recv hK hP (ci := 8) (q0 := 52) rfl rfl, zP_ok hP hK hF hS hN⟩ rfl rfl hl.1 rfl (lv_room (Nat.le_of_ble_eq_true rfl)) dL_begins_3 ⟨Nat.le_of_ble_eq_true rfl, Nat.le_of_ble_eq_true rfl⟩) (gD_va hD rfl) hS hA (fun hne q9 ce H locs hP hS hce hcv hcl => ?_) (fun h0 H locs hP hS => ?_)
  · have hx2 := hc.resolve_left hne
    have hcl : s.vm.findClass "java/lang/IllegalArgumentException" = some ce.cls := (congrArg (fun z => s.vm.findClass (xN z)) hx2).symm.trans hcl
    refine vx_catch (E := "java/lang/IllegalArgumentException") (name := "java/lang/IllegalArgumentException") hown [] ⟨0, 6, 7, 105⟩ [] htab (fun z hz => absurd hz List.not_mem_nil) rfl (by decide) (hts (.classLink RL 105 "java/lang/IllegalArgumentException") (gTt tw297)) (hF.2.1.cas _ cas2) hce hcv hcl ?_
    refine lv_astore_n (lv' := [(3, .ref q9), (0, .ref (qk 0)), (1, .int a1), (2, .int a2)]) hx hb dL_begins_7 rfl hl (by decide) rfl (fun ls hl => ?_)
    refine lv_ldc (v := (-100000002)) hx hb hown (hts (.constant RL 48 (-100000002)) (gTt tw443)) dL_begins_8 ?_
    exact e_H C0 (hF_x hne hx2 rfl) hP hS rfl rfl dL_begins_10
  · exact e_H C0 (hF_0 h0) hP hS rfl rfl dL_begins_6
abbrev rL_mics : Room := { frames := 8, cells := 4, slots := 24, locals := 146 }
set_option maxHeartbeats 4000000 in
set_option maxRecDepth 100000 in
theorem mL_mics (l : Launch) (hfl : l.stackTraces = false) (dC : Nat → ClassId) (dI : Nat → Nat → Nat) (cI cB cO cL : ClassId) (N0 : Nat) (sT eA : Nat → Nat) (qb : Nat → Nat) (qs : Nat → Nat) (qu : Nat → Nat) (qk : Nat → Nat) (qr : Nat → Nat) (qe : Nat → Nat) (qx : Nat → Nat) (qd : Nat → Nat) (b : BS) (s9 : SS) (u : US) (kk : Int32) (a1 : Int32) (a2 : Int32) (sz : Nat) (hsz : N0 ≤ sz) (hDa : gD (fun _ => True) (bAd qb ++ sAd qs ++ uAd qu ++ kAd qk)) (hNa : ∀ a ∈ (bAd qb ++ sAd qs ++ uAd qu ++ kAd qk : List Nat), N0 ≤ a) (hok : kX11_addMicrophone b s9 u kk a1 a2) (hc : (pX11_addMicrophone b s9 u kk a1 a2).1 = 0 ∨ (pX11_addMicrophone b s9 u kk a1 a2).1 = 2 ∨ (pX11_addMicrophone b s9 u kk a1 a2).1 = 3) : Met l yL_mics wsT_mics rL_mics (lP N0 sz sT eA (dC, dI) (tYS cI cB cO cL) (bw qb cI b ++ sw qs cI s9 ++ uw qu cI cB u ++ kw qk qb qr qe qs qu qx qd cI kk) [.ref (qk 0), .int a1, .int a2]) (hQ (dC, dI) (fun z9 : BS × SS × US × Int32 => bw qb cI z9.1 ++ sw qs cI z9.2.1 ++ uw qu cI cB z9.2.2.1 ++ kw qk qb qr qe qs qu qx qd cI z9.2.2.2) (va_A (bw qb cI b ++ sw qs cI s9 ++ uw qu cI cB u ++ kw qk qb qr qe qs qu qx qd cI kk) sz) (pX11_addMicrophone b s9 u kk a1 a2)) 4 24 (va_A (bw qb cI b ++ sw qs cI s9 ++ uw qu cI cB u ++ kw qk qb qr qe qs qu qx qd cI kk) sz) := by
  refine lMet (cc := cL_mics) (maxL := 4) (ret := some .int) (hh := [(0, 6, 7, 105), (0, 6, 11, 110)]) [(0, .ref (qk 0)), (1, .int a1), (2, .int a2)] (by decide) rfl rfl rfl ?_
  intro p e s mi below meth c C0 htab hz hK hF hC hP ls hl
  obtain ⟨hx, hb, hr, hml, hown, hts, hlocks⟩ := id C0
  have hown : s.vm.findClass RL = some mi.cls := hown
  have htab : c.exceptionTable.toList = [⟨0, 6, 7, 105⟩, ⟨0, 6, 11, 110⟩] := htab
  subst hz
  have hA : ∀ q : Nat, s.heap.size ≤ q → (va_A (bw qb cI b ++ sw qs cI s9 ++ uw qu cI cB u ++ kw qk qb qr qe qs qu qx qd cI kk) s.heap.size) q := fun q h => Or.inr h
  have hN : ∀ q : Nat, (va_A (bw qb cI b ++ sw qs cI s9 ++ uw qu cI cB u ++ kw qk qb qr qe qs qu qx qd cI kk) s.heap.size) q → N0 ≤ q := vA_N (ws := bw qb cI b ++ sw qs cI s9 ++ uw qu cI cB u ++ kw qk qb qr qe qs qu qx qd cI kk) hNa hsz
  have hD : gD (va_A (bw qb cI b ++ sw qs cI s9 ++ uw qu cI cB u ++ kw qk qb qr qe qs qu qx qd cI kk) s.heap.size) (bAd qb ++ sAd qs ++ uAd qu ++ kAd qk) := gD_vA (ws := bw qb cI b ++ sw qs cI s9 ++ uw qu cI cB u ++ kw qk qb qr qe qs qu qx qd cI kk) hDa
  have hS : va_S (va_A (bw qb cI b ++ sw qs cI s9 ++ uw qu cI cB u ++ kw qk qb qr qe qs qu qx qd cI kk) s.heap.size) s.heap s.heap [] := va_S.rf
  have hP : va_P (dC, dI) vwCl (bw qb cI b ++ sw qs cI s9 ++ uw qu cI cB u ++ kw qk qb qr qe qs qu qx qd cI kk) s.heap := hP
  refine lv_aload_n hx hb dL_mics_0 rfl (lv_at hl 0 rfl) ?_
  refine lv_iload_n hx hb dL_mics_1 rfl (lv_at hl 1 rfl) ?_
  refine lv_iload_n hx hb dL_mics_2 rfl (lv_at hl 2 rfl) ?_
  refine h_call (w0 := bw qb cI b ++ sw qs cI s9 ++ uw qu cI cB u ++ kw qk qb qr qe qs qu qx qd cI kk) (vx_runV (As := [.int a1, .int a2]) (rest := []) ⟨hx, hb, hml, hown, hts⟩ (mX11_addMicrophone l hfl dC dI cI cB cO cL N0 sT eA qb qs qu qk qr qe qx qd b s9 u kk a1 a2 s.heap.size hsz (gD_any hD) hNa hok) (cwV 2 hts (gT_in gQ_X11_addMicrophone_107) rfl rfl rfl (by decide +kernel) ⟨Nat.le_of_ble_eq_true rfl, Nat.le_of_ble_eq_true rfl⟩) ⟨zP_blind, va_recv hK hP (ci := 8) (q0 := 52) rfl rfl, zP_ok hP hK hF hS hN⟩ rfl rfl hl.1 rfl (lv_room (Nat.le_of_ble_eq_true rfl)) dL_mics_3 ⟨Nat.le_of_ble_eq_true rfl, Nat.le_of_ble_eq_true rfl⟩) (gD_va hD rfl) hS hA (fun hne q9 ce H locs hP hS hce hcv hcl => ?_) (fun h0 H locs hP hS => ?_)
  · rcases hc.resolve_left hne with hx2 | hx3
    · have hcl : s.vm.findClass "java/lang/IllegalArgumentException" = some ce.cls := (congrArg (fun z => s.vm.findClass (xN z)) hx2).symm.trans hcl
      refine vx_catch (E := "java/lang/IllegalArgumentException") (name := "java/lang/IllegalArgumentException") hown [] ⟨0, 6, 7, 105⟩ [⟨0, 6, 11, 110⟩] htab (fun z hz => absurd hz List.not_mem_nil) rfl (by decide) (hts (.classLink RL 105 "java/lang/IllegalArgumentException") (gTt tw297)) (hF.2.1.cas _ cas2) hce hcv hcl ?_
      refine lv_astore_n (lv' := [(3, .ref q9), (0, .ref (qk 0)), (1, .int a1), (2, .int a2)]) hx hb dL_mics_7 rfl hl (by decide) rfl (fun ls hl => ?_)
      refine lv_ldc (v := (-100000002)) hx hb hown (hts (.constant RL 48 (-100000002)) (gTt tw443)) dL_mics_8 ?_
      exact e_H C0 (hF_x hne hx2 rfl) hP hS rfl rfl dL_mics_10
    · have hcl : s.vm.findClass "java/lang/IllegalStateException" = some ce.cls := (congrArg (fun z => s.vm.findClass (xN z)) hx3).symm.trans hcl
      refine vx_catch (E := "java/lang/IllegalStateException") (name := "java/lang/IllegalStateException") hown [⟨0, 6, 7, 105⟩] ⟨0, 6, 11, 110⟩ [] htab (fun z hz => Or.inr (by rw [List.mem_singleton.mp hz]; exact ⟨by decide, "java/lang/IllegalArgumentException", hts (.classLink RL 105 "java/lang/IllegalArgumentException") (gTt tw297), hC.2.1⟩)) rfl (by decide) (hts (.classLink RL 110 "java/lang/IllegalStateException") (gTt tw447)) (hF.2.1.cas _ cas3) hce hcv hcl ?_
      refine lv_astore_n (lv' := [(3, .ref q9), (0, .ref (qk 0)), (1, .int a1), (2, .int a2)]) hx hb dL_mics_11 rfl hl (by decide) rfl (fun ls hl => ?_)
      refine lv_ldc (v := (-100000003)) hx hb hown (hts (.constant RL 95 (-100000003)) (gTt tw461)) dL_mics_12 ?_
      exact e_H C0 (hF_x hne hx3 rfl) hP hS rfl rfl dL_mics_14
  · exact e_H C0 (hF_0 h0) hP hS rfl rfl dL_mics_6
abbrev rL_walls : Room := { frames := 8, cells := 4, slots := 24, locals := 147 }
set_option maxHeartbeats 4000000 in
set_option maxRecDepth 100000 in
theorem mL_walls (l : Launch) (hfl : l.stackTraces = false) (dC : Nat → ClassId) (dI : Nat → Nat → Nat) (cI cB cO cL : ClassId) (N0 : Nat) (sT eA : Nat → Nat) (qb : Nat → Nat) (qs : Nat → Nat) (qu : Nat → Nat) (qk : Nat → Nat) (qr : Nat → Nat) (qe : Nat → Nat) (qx : Nat → Nat) (qd : Nat → Nat) (b : BS) (s9 : SS) (u : US) (kk : Int32) (a1 : Int32) (a2 : Int32) (a3 : Int32) (sz : Nat) (hsz : N0 ≤ sz) (hDa : gD (fun _ => True) (bAd qb ++ sAd qs ++ uAd qu ++ kAd qk)) (hNa : ∀ a ∈ (bAd qb ++ sAd qs ++ uAd qu ++ kAd qk : List Nat), N0 ≤ a) (hok : kX11_addWall b s9 u kk a1 a2 a3) (hc : (pX11_addWall b s9 u kk a1 a2 a3).1 = 0 ∨ (pX11_addWall b s9 u kk a1 a2 a3).1 = 2 ∨ (pX11_addWall b s9 u kk a1 a2 a3).1 = 3) : Met l yL_walls wsT_walls rL_walls (lP N0 sz sT eA (dC, dI) (tYS cI cB cO cL) (bw qb cI b ++ sw qs cI s9 ++ uw qu cI cB u ++ kw qk qb qr qe qs qu qx qd cI kk) [.ref (qk 0), .int a1, .int a2, .int a3]) (hQ (dC, dI) (fun z9 : BS × SS × US × Int32 => bw qb cI z9.1 ++ sw qs cI z9.2.1 ++ uw qu cI cB z9.2.2.1 ++ kw qk qb qr qe qs qu qx qd cI z9.2.2.2) (va_A (bw qb cI b ++ sw qs cI s9 ++ uw qu cI cB u ++ kw qk qb qr qe qs qu qx qd cI kk) sz) (pX11_addWall b s9 u kk a1 a2 a3)) 4 24 (va_A (bw qb cI b ++ sw qs cI s9 ++ uw qu cI cB u ++ kw qk qb qr qe qs qu qx qd cI kk) sz) := by
  refine lMet (cc := cL_walls) (maxL := 5) (ret := some .int) (hh := [(0, 7, 8, 105), (0, 7, 13, 110)]) [(0, .ref (qk 0)), (1, .int a1), (2, .int a2), (3, .int a3)] (by decide) rfl rfl rfl ?_
  intro p e s mi below meth c C0 htab hz hK hF hC hP ls hl
  obtain ⟨hx, hb, hr, hml, hown, hts, hlocks⟩ := id C0
  have hown : s.vm.findClass RL = some mi.cls := hown
  have htab : c.exceptionTable.toList = [⟨0, 7, 8, 105⟩, ⟨0, 7, 13, 110⟩] := htab
  subst hz
  have hA : ∀ q : Nat, s.heap.size ≤ q → (va_A (bw qb cI b ++ sw qs cI s9 ++ uw qu cI cB u ++ kw qk qb qr qe qs qu qx qd cI kk) s.heap.size) q := fun q h => Or.inr h
  have hN : ∀ q : Nat, (va_A (bw qb cI b ++ sw qs cI s9 ++ uw qu cI cB u ++ kw qk qb qr qe qs qu qx qd cI kk) s.heap.size) q → N0 ≤ q := vA_N (ws := bw qb cI b ++ sw qs cI s9 ++ uw qu cI cB u ++ kw qk qb qr qe qs qu qx qd cI kk) hNa hsz
  have hD : gD (va_A (bw qb cI b ++ sw qs cI s9 ++ uw qu cI cB u ++ kw qk qb qr qe qs qu qx qd cI kk) s.heap.size) (bAd qb ++ sAd qs ++ uAd qu ++ kAd qk) := gD_vA (ws := bw qb cI b ++ sw qs cI s9 ++ uw qu cI cB u ++ kw qk qb qr qe qs qu qx qd cI kk) hDa
  have hS : va_S (va_A (bw qb cI b ++ sw qs cI s9 ++ uw qu cI cB u ++ kw qk qb qr qe qs qu qx qd cI kk) s.heap.size) s.heap s.heap [] := va_S.rf
  have hP : va_P (dC, dI) vwCl (bw qb cI b ++ sw qs cI s9 ++ uw qu cI cB u ++ kw qk qb qr qe qs qu qx qd cI kk) s.heap := hP
  refine lv_aload_n hx hb dL_walls_0 rfl (lv_at hl 0 rfl) ?_
  refine lv_iload_n hx hb dL_walls_1 rfl (lv_at hl 1 rfl) ?_
  refine lv_iload_n hx hb dL_walls_2 rfl (lv_at hl 2 rfl) ?_
  refine lv_iload_n hx hb dL_walls_3 rfl (lv_at hl 3 rfl) ?_
  refine h_call (w0 := bw qb cI b ++ sw qs cI s9 ++ uw qu cI cB u ++ kw qk qb qr qe qs qu qx qd cI kk) (vx_runV (As := [.int a1, .int a2, .int a3]) (rest := []) ⟨hx, hb, hml, hown, hts⟩ (mX11_addWall l hfl dC dI cI cB cO cL N0 sT eA qb qs qu qk qr qe qx qd b s9 u kk a1 a2 a3 s.heap.size hsz (gD_any hD) hNa hok) (cwV 3 hts (gT_in gQ_X11_addWall_117) rfl rfl rfl (by decide +kernel) ⟨Nat.le_of_ble_eq_true rfl, Nat.le_of_ble_eq_true rfl⟩) ⟨zP_blind, va_recv hK hP (ci := 8) (q0 := 52) rfl rfl, zP_ok hP hK hF hS hN⟩ rfl rfl hl.1 rfl (lv_room (Nat.le_of_ble_eq_true rfl)) dL_walls_4 ⟨Nat.le_of_ble_eq_true rfl, Nat.le_of_ble_eq_true rfl⟩) (gD_va hD rfl) hS hA (fun hne q9 ce H locs hP hS hce hcv hcl => ?_) (fun h0 H locs hP hS => ?_)
  · rcases hc.resolve_left hne with hx2 | hx3
    · have hcl : s.vm.findClass "java/lang/IllegalArgumentException" = some ce.cls := (congrArg (fun z => s.vm.findClass (xN z)) hx2).symm.trans hcl
      refine vx_catch (E := "java/lang/IllegalArgumentException") (name := "java/lang/IllegalArgumentException") hown [] ⟨0, 7, 8, 105⟩ [⟨0, 7, 13, 110⟩] htab (fun z hz => absurd hz List.not_mem_nil) rfl (by decide) (hts (.classLink RL 105 "java/lang/IllegalArgumentException") (gTt tw297)) (hF.2.1.cas _ cas2) hce hcv hcl ?_
      refine lv_astore (lv' := [(4, .ref q9), (0, .ref (qk 0)), (1, .int a1), (2, .int a2), (3, .int a3)]) hx hb dL_walls_8 hl (by decide) rfl (fun ls hl => ?_)
      refine lv_ldc (v := (-100000002)) hx hb hown (hts (.constant RL 48 (-100000002)) (gTt tw443)) dL_walls_10 ?_
      exact e_H C0 (hF_x hne hx2 rfl) hP hS rfl rfl dL_walls_12
    · have hcl : s.vm.findClass "java/lang/IllegalStateException" = some ce.cls := (congrArg (fun z => s.vm.findClass (xN z)) hx3).symm.trans hcl
      refine vx_catch (E := "java/lang/IllegalStateException") (name := "java/lang/IllegalStateException") hown [⟨0, 7, 8, 105⟩] ⟨0, 7, 13, 110⟩ [] htab (fun z hz => Or.inr (by rw [List.mem_singleton.mp hz]; exact ⟨by decide, "java/lang/IllegalArgumentException", hts (.classLink RL 105 "java/lang/IllegalArgumentException") (gTt tw297), hC.2.1⟩)) rfl (by decide) (hts (.classLink RL 110 "java/lang/IllegalStateException") (gTt tw447)) (hF.2.1.cas _ cas3) hce hcv hcl ?_
      refine lv_astore (lv' := [(4, .ref q9), (0, .ref (qk 0)), (1, .int a1), (2, .int a2), (3, .int a3)]) hx hb dL_walls_13 hl (by decide) rfl (fun ls hl => ?_)
      refine lv_ldc (v := (-100000003)) hx hb hown (hts (.constant RL 95 (-100000003)) (gTt tw461)) dL_walls_15 ?_
      exact e_H C0 (hF_x hne hx3 rfl) hP hS rfl rfl dL_walls_17
  · exact e_H C0 (hF_0 h0) hP hS rfl rfl dL_walls_7
abbrev rL_screens : Room := { frames := 8, cells := 4, slots := 24, locals := 148 }
set_option maxHeartbeats 4000000 in
set_option maxRecDepth 100000 in
theorem mL_screens (l : Launch) (hfl : l.stackTraces = false) (dC : Nat → ClassId) (dI : Nat → Nat → Nat) (cI cB cO cL : ClassId) (N0 : Nat) (sT eA : Nat → Nat) (qb : Nat → Nat) (qs : Nat → Nat) (qu : Nat → Nat) (qk : Nat → Nat) (qr : Nat → Nat) (qe : Nat → Nat) (qx : Nat → Nat) (qd : Nat → Nat) (b : BS) (s9 : SS) (u : US) (kk : Int32) (a1 : Int32) (a2 : Int32) (a3 : Int32) (a4 : Int32) (sz : Nat) (hsz : N0 ≤ sz) (hDa : gD (fun _ => True) (bAd qb ++ sAd qs ++ uAd qu ++ kAd qk)) (hNa : ∀ a ∈ (bAd qb ++ sAd qs ++ uAd qu ++ kAd qk : List Nat), N0 ≤ a) (hok : kX11_addScreen b s9 u kk a1 a2 a3 a4) (hc : (pX11_addScreen b s9 u kk a1 a2 a3 a4).1 = 0 ∨ (pX11_addScreen b s9 u kk a1 a2 a3 a4).1 = 2 ∨ (pX11_addScreen b s9 u kk a1 a2 a3 a4).1 = 3) : Met l yL_screens wsT_screens rL_screens (lP N0 sz sT eA (dC, dI) (tYS cI cB cO cL) (bw qb cI b ++ sw qs cI s9 ++ uw qu cI cB u ++ kw qk qb qr qe qs qu qx qd cI kk) [.ref (qk 0), .int a1, .int a2, .int a3, .int a4]) (hQ (dC, dI) (fun z9 : BS × SS × US × Int32 => bw qb cI z9.1 ++ sw qs cI z9.2.1 ++ uw qu cI cB z9.2.2.1 ++ kw qk qb qr qe qs qu qx qd cI z9.2.2.2) (va_A (bw qb cI b ++ sw qs cI s9 ++ uw qu cI cB u ++ kw qk qb qr qe qs qu qx qd cI kk) sz) (pX11_addScreen b s9 u kk a1 a2 a3 a4)) 4 24 (va_A (bw qb cI b ++ sw qs cI s9 ++ uw qu cI cB u ++ kw qk qb qr qe qs qu qx qd cI kk) sz) := by
  refine lMet (cc := cL_screens) (maxL := 6) (ret := some .int) (hh := [(0, 9, 10, 105), (0, 9, 15, 110)]) [(0, .ref (qk 0)), (1, .int a1), (2, .int a2), (3, .int a3), (4, .int a4)] (by decide) rfl rfl rfl ?_
  intro p e s mi below meth c C0 htab hz hK hF hC hP ls hl
  obtain ⟨hx, hb, hr, hml, hown, hts, hlocks⟩ := id C0
  have hown : s.vm.findClass RL = some mi.cls := hown
  have htab : c.exceptionTable.toList = [⟨0, 9, 10, 105⟩, ⟨0, 9, 15, 110⟩] := htab
  subst hz
  have hA : ∀ q : Nat, s.heap.size ≤ q → (va_A (bw qb cI b ++ sw qs cI s9 ++ uw qu cI cB u ++ kw qk qb qr qe qs qu qx qd cI kk) s.heap.size) q := fun q h => Or.inr h
  have hN : ∀ q : Nat, (va_A (bw qb cI b ++ sw qs cI s9 ++ uw qu cI cB u ++ kw qk qb qr qe qs qu qx qd cI kk) s.heap.size) q → N0 ≤ q := vA_N (ws := bw qb cI b ++ sw qs cI s9 ++ uw qu cI cB u ++ kw qk qb qr qe qs qu qx qd cI kk) hNa hsz
  have hD : gD (va_A (bw qb cI b ++ sw qs cI s9 ++ uw qu cI cB u ++ kw qk qb qr qe qs qu qx qd cI kk) s.heap.size) (bAd qb ++ sAd qs ++ uAd qu ++ kAd qk) := gD_vA (ws := bw qb cI b ++ sw qs cI s9 ++ uw qu cI cB u ++ kw qk qb qr qe qs qu qx qd cI kk) hDa
  have hS : va_S (va_A (bw qb cI b ++ sw qs cI s9 ++ uw qu cI cB u ++ kw qk qb qr qe qs qu qx qd cI kk) s.heap.size) s.heap s.heap [] := va_S.rf
  have hP : va_P (dC, dI) vwCl (bw qb cI b ++ sw qs cI s9 ++ uw qu cI cB u ++ kw qk qb qr qe qs qu qx qd cI kk) s.heap := hP
  refine lv_aload_n hx hb dL_screens_0 rfl (lv_at hl 0 rfl) ?_
  refine lv_iload_n hx hb dL_screens_1 rfl (lv_at hl 1 rfl) ?_
  refine lv_iload_n hx hb dL_screens_2 rfl (lv_at hl 2 rfl) ?_
  refine lv_iload_n hx hb dL_screens_3 rfl (lv_at hl 3 rfl) ?_
  refine lv_iload hx hb dL_screens_4 (lv_at hl 4 rfl) ?_
  refine h_call (w0 := bw qb cI b ++ sw qs cI s9 ++ uw qu cI cB u ++ kw qk qb qr qe qs qu qx qd cI kk) (vx_runV (As := [.int a1, .int a2, .int a3, .int a4]) (rest := []) ⟨hx, hb, hml, hown, hts⟩ (mX11_addScreen l hfl dC dI cI cB cO cL N0 sT eA qb qs qu qk qr qe qx qd b s9 u kk a1 a2 a3 a4 s.heap.size hsz (gD_any hD) hNa hok) (cwV 4 hts (gT_in gQ_X11_addScreen_121) rfl rfl rfl (by decide +kernel) ⟨Nat.le_of_ble_eq_true rfl, Nat.le_of_ble_eq_true rfl⟩) ⟨zP_blind, va_recv hK hP (ci := 8) (q0 := 52) rfl rfl, zP_ok hP hK hF hS hN⟩ rfl rfl hl.1 rfl (lv_room (Nat.le_of_ble_eq_true rfl)) dL_screens_6 ⟨Nat.le_of_ble_eq_true rfl, Nat.le_of_ble_eq_true rfl⟩) (gD_va hD rfl) hS hA (fun hne q9 ce H locs hP hS hce hcv hcl => ?_) (fun h0 H locs hP hS => ?_)
  · rcases hc.resolve_left hne with hx2 | hx3
    · have hcl : s.vm.findClass "java/lang/IllegalArgumentException" = some ce.cls := (congrArg (fun z => s.vm.findClass (xN z)) hx2).symm.trans hcl
      refine vx_catch (E := "java/lang/IllegalArgumentException") (name := "java/lang/IllegalArgumentException") hown [] ⟨0, 9, 10, 105⟩ [⟨0, 9, 15, 110⟩] htab (fun z hz => absurd hz List.not_mem_nil) rfl (by decide) (hts (.classLink RL 105 "java/lang/IllegalArgumentException") (gTt tw297)) (hF.2.1.cas _ cas2) hce hcv hcl ?_
      refine lv_astore (lv' := [(5, .ref q9), (0, .ref (qk 0)), (1, .int a1), (2, .int a2), (3, .int a3), (4, .int a4)]) hx hb dL_screens_10 hl (by decide) rfl (fun ls hl => ?_)
      refine lv_ldc (v := (-100000002)) hx hb hown (hts (.constant RL 48 (-100000002)) (gTt tw443)) dL_screens_12 ?_
      exact e_H C0 (hF_x hne hx2 rfl) hP hS rfl rfl dL_screens_14
    · have hcl : s.vm.findClass "java/lang/IllegalStateException" = some ce.cls := (congrArg (fun z => s.vm.findClass (xN z)) hx3).symm.trans hcl
      refine vx_catch (E := "java/lang/IllegalStateException") (name := "java/lang/IllegalStateException") hown [⟨0, 9, 10, 105⟩] ⟨0, 9, 15, 110⟩ [] htab (fun z hz => Or.inr (by rw [List.mem_singleton.mp hz]; exact ⟨by decide, "java/lang/IllegalArgumentException", hts (.classLink RL 105 "java/lang/IllegalArgumentException") (gTt tw297), hC.2.1⟩)) rfl (by decide) (hts (.classLink RL 110 "java/lang/IllegalStateException") (gTt tw447)) (hF.2.1.cas _ cas3) hce hcv hcl ?_
      refine lv_astore (lv' := [(5, .ref q9), (0, .ref (qk 0)), (1, .int a1), (2, .int a2), (3, .int a3), (4, .int a4)]) hx hb dL_screens_15 hl (by decide) rfl (fun ls hl => ?_)
      refine lv_ldc (v := (-100000003)) hx hb hown (hts (.constant RL 95 (-100000003)) (gTt tw461)) dL_screens_17 ?_
      exact e_H C0 (hF_x hne hx3 rfl) hP hS rfl rfl dL_screens_19
  · exact e_H C0 (hF_0 h0) hP hS rfl rfl dL_screens_9
abbrev rL_drops : Room := { frames := 9, cells := 4, slots := 24, locals := 155 }
set_option maxHeartbeats 4000000 in
set_option maxRecDepth 100000 in
theorem mL_drops (l : Launch) (hfl : l.stackTraces = false) (dC : Nat → ClassId) (dI : Nat → Nat → Nat) (cI cB cO cL : ClassId) (N0 : Nat) (sT eA : Nat → Nat) (qb : Nat → Nat) (qs : Nat → Nat) (qu : Nat → Nat) (qk : Nat → Nat) (qr : Nat → Nat) (qe : Nat → Nat) (qx : Nat → Nat) (qd : Nat → Nat) (b : BS) (s9 : SS) (u : US) (kk : Int32) (a1 : Int32) (a2 : Int32) (sz : Nat) (hsz : N0 ≤ sz) (hDa : gD (fun _ => True) (bAd qb ++ sAd qs ++ uAd qu ++ kAd qk)) (hNa : ∀ a ∈ (bAd qb ++ sAd qs ++ uAd qu ++ kAd qk : List Nat), N0 ≤ a) (hok : kX11_remove b s9 u kk a1 a2) (hc : (pX11_remove b s9 u kk a1 a2).1 = 0 ∨ (pX11_remove b s9 u kk a1 a2).1 = 2 ∨ (pX11_remove b s9 u kk a1 a2).1 = 1) : Met l yL_drops wsT_drops rL_drops (lP N0 sz sT eA (dC, dI) (tYS cI cB cO cL) (bw qb cI b ++ sw qs cI s9 ++ uw qu cI cB u ++ kw qk qb qr qe qs qu qx qd cI kk) [.ref (qk 0), .int a1, .int a2]) (hQ (dC, dI) (fun z9 : BS × SS × US × Int32 => bw qb cI z9.1 ++ sw qs cI z9.2.1 ++ uw qu cI cB z9.2.2.1 ++ kw qk qb qr qe qs qu qx qd cI z9.2.2.2) (va_A (bw qb cI b ++ sw qs cI s9 ++ uw qu cI cB u ++ kw qk qb qr qe qs qu qx qd cI kk) sz) (pX11_remove b s9 u kk a1 a2)) 4 24 (va_A (bw qb cI b ++ sw qs cI s9 ++ uw qu cI cB u ++ kw qk qb qr qe qs qu qx qd cI kk) sz) := by
  refine lMet (cc := cL_drops) (maxL := 4) (ret := some .int) (hh := [(0, 6, 7, 105), (0, 6, 11, 115)]) [(0, .ref (qk 0)), (1, .int a1), (2, .int a2)] (by decide) rfl rfl rfl ?_
  intro p e s mi below meth c C0 htab hz hK hF hC hP ls hl
  obtain ⟨hx, hb, hr, hml, hown, hts, hlocks⟩ := id C0
  have hown : s.vm.findClass RL = some mi.cls := hown
  have htab : c.exceptionTable.toList = [⟨0, 6, 7, 105⟩, ⟨0, 6, 11, 115⟩] := htab
  subst hz
  have hA : ∀ q : Nat, s.heap.size ≤ q → (va_A (bw qb cI b ++ sw qs cI s9 ++ uw qu cI cB u ++ kw qk qb qr qe qs qu qx qd cI kk) s.heap.size) q := fun q h => Or.inr h
  have hN : ∀ q : Nat, (va_A (bw qb cI b ++ sw qs cI s9 ++ uw qu cI cB u ++ kw qk qb qr qe qs qu qx qd cI kk) s.heap.size) q → N0 ≤ q := vA_N (ws := bw qb cI b ++ sw qs cI s9 ++ uw qu cI cB u ++ kw qk qb qr qe qs qu qx qd cI kk) hNa hsz
  have hD : gD (va_A (bw qb cI b ++ sw qs cI s9 ++ uw qu cI cB u ++ kw qk qb qr qe qs qu qx qd cI kk) s.heap.size) (bAd qb ++ sAd qs ++ uAd qu ++ kAd qk) := gD_vA (ws := bw qb cI b ++ sw qs cI s9 ++ uw qu cI cB u ++ kw qk qb qr qe qs qu qx qd cI kk) hDa
  have hS : va_S (va_A (bw qb cI b ++ sw qs cI s9 ++ uw qu cI cB u ++ kw qk qb qr qe qs qu qx qd cI kk) s.heap.size) s.heap s.heap [] := va_S.rf
  have hP : va_P (dC, dI) vwCl (bw qb cI b ++ sw qs cI s9 ++ uw qu cI cB u ++ kw qk qb qr qe qs qu qx qd cI kk) s.heap := hP
  refine lv_aload_n hx hb dL_drops_0 rfl (lv_at hl 0 rfl) ?_
  refine lv_iload_n hx hb dL_drops_1 rfl (lv_at hl 1 rfl) ?_
  refine lv_iload_n hx hb dL_drops_2 rfl (lv_at hl 2 rfl) ?_
  refine h_call (w0 := bw qb cI b ++ sw qs cI s9 ++ uw qu cI cB u ++ kw qk qb qr qe qs qu qx qd cI kk) (vx_runV (As := [.int a1, .int a2]) (rest := []) ⟨hx, hb, hml, hown, hts⟩ (mX11_remove l hfl dC dI cI cB cO cL N0 sT eA qb qs qu qk qr qe qx qd b s9 u kk a1 a2 s.heap.size hsz (gD_any hD) hNa hok) (cwV 2 hts (gT_in gQ_X11_remove_125) rfl rfl rfl (by decide +kernel) ⟨Nat.le_of_ble_eq_true rfl, Nat.le_of_ble_eq_true rfl⟩) ⟨zP_blind, va_recv hK hP (ci := 8) (q0 := 52) rfl rfl, zP_ok hP hK hF hS hN⟩ rfl rfl hl.1 rfl (lv_room (Nat.le_of_ble_eq_true rfl)) dL_drops_3 ⟨Nat.le_of_ble_eq_true rfl, Nat.le_of_ble_eq_true rfl⟩) (gD_va hD rfl) hS hA (fun hne q9 ce H locs hP hS hce hcv hcl => ?_) (fun h0 H locs hP hS => ?_)
  · rcases hc.resolve_left hne with hx2 | hx1
    · have hcl : s.vm.findClass "java/lang/IllegalArgumentException" = some ce.cls := (congrArg (fun z => s.vm.findClass (xN z)) hx2).symm.trans hcl
      refine vx_catch (E := "java/lang/IllegalArgumentException") (name := "java/lang/IllegalArgumentException") hown [] ⟨0, 6, 7, 105⟩ [⟨0, 6, 11, 115⟩] htab (fun z hz => absurd hz List.not_mem_nil) rfl (by decide) (hts (.classLink RL 105 "java/lang/IllegalArgumentException") (gTt tw297)) (hF.2.1.cas _ cas2) hce hcv hcl ?_
      refine lv_astore_n (lv' := [(3, .ref q9), (0, .ref (qk 0)), (1, .int a1), (2, .int a2)]) hx hb dL_drops_7 rfl hl (by decide) rfl (fun ls hl => ?_)
      refine lv_ldc (v := (-100000002)) hx hb hown (hts (.constant RL 48 (-100000002)) (gTt tw443)) dL_drops_8 ?_
      exact e_H C0 (hF_x hne hx2 rfl) hP hS rfl rfl dL_drops_10
    · have hcl : s.vm.findClass "java/lang/IndexOutOfBoundsException" = some ce.cls := (congrArg (fun z => s.vm.findClass (xN z)) hx1).symm.trans hcl
      refine vx_catch (E := "java/lang/IndexOutOfBoundsException") (name := "java/lang/IndexOutOfBoundsException") hown [⟨0, 6, 7, 105⟩] ⟨0, 6, 11, 115⟩ [] htab (fun z hz => Or.inr (by rw [List.mem_singleton.mp hz]; exact ⟨by decide, "java/lang/IllegalArgumentException", hts (.classLink RL 105 "java/lang/IllegalArgumentException") (gTt tw297), hC.1⟩)) rfl (by decide) (hts (.classLink RL 115 "java/lang/IndexOutOfBoundsException") (gTt tw496)) (hF.2.1.cas _ cas1) hce hcv hcl ?_
      refine lv_astore_n (lv' := [(3, .ref q9), (0, .ref (qk 0)), (1, .int a1), (2, .int a2)]) hx hb dL_drops_11 rfl hl (by decide) rfl (fun ls hl => ?_)
      refine lv_ldc (v := (-100000001)) hx hb hown (hts (.constant RL 63 (-100000001)) (gTt tw521)) dL_drops_12 ?_
      exact e_H C0 (hF_x hne hx1 rfl) hP hS rfl rfl dL_drops_14
  · exact e_H C0 (hF_0 h0) hP hS rfl rfl dL_drops_6
abbrev rL_sets : Room := { frames := 8, cells := 4, slots := 24, locals := 146 }
set_option maxHeartbeats 4000000 in
set_option maxRecDepth 100000 in
theorem mL_sets (l : Launch) (hfl : l.stackTraces = false) (dC : Nat → ClassId) (dI : Nat → Nat → Nat) (cI cB cO cL : ClassId) (N0 : Nat) (sT eA : Nat → Nat) (qb : Nat → Nat) (qs : Nat → Nat) (qu : Nat → Nat) (qk : Nat → Nat) (qr : Nat → Nat) (qe : Nat → Nat) (qx : Nat → Nat) (qd : Nat → Nat) (b : BS) (s9 : SS) (u : US) (kk : Int32) (a1 : Int32) (a2 : Int32) (sz : Nat) (hsz : N0 ≤ sz) (hDa : gD (fun _ => True) (bAd qb ++ sAd qs ++ uAd qu ++ kAd qk)) (hNa : ∀ a ∈ (bAd qb ++ sAd qs ++ uAd qu ++ kAd qk : List Nat), N0 ≤ a) (hok : kX11_set b s9 u kk a1 a2) (hc : (pX11_set b s9 u kk a1 a2).1 = 0 ∨ (pX11_set b s9 u kk a1 a2).1 = 2) : Met l yL_sets wsT_sets rL_sets (lP N0 sz sT eA (dC, dI) (tYS cI cB cO cL) (bw qb cI b ++ sw qs cI s9 ++ uw qu cI cB u ++ kw qk qb qr qe qs qu qx qd cI kk) [.ref (qk 0), .int a1, .int a2]) (hQ (dC, dI) (fun z9 : BS × SS × US × Int32 => bw qb cI z9.1 ++ sw qs cI z9.2.1 ++ uw qu cI cB z9.2.2.1 ++ kw qk qb qr qe qs qu qx qd cI z9.2.2.2) (va_A (bw qb cI b ++ sw qs cI s9 ++ uw qu cI cB u ++ kw qk qb qr qe qs qu qx qd cI kk) sz) (pX11_set b s9 u kk a1 a2)) 4 24 (va_A (bw qb cI b ++ sw qs cI s9 ++ uw qu cI cB u ++ kw qk qb qr qe qs qu qx qd cI kk) sz) := by
  refine lMet (cc := cL_sets) (maxL := 4) (ret := some .int) (hh := [(0, 6, 7, 105)]) [(0, .ref (qk 0)), (1, .int a1), (2, .int a2)] (by decide) rfl rfl rfl ?_
  intro p e s mi below meth c C0 htab hz hK hF hC hP ls hl
  obtain ⟨hx, hb, hr, hml, hown, hts, hlocks⟩ := id C0
  have hown : s.vm.findClass RL = some mi.cls := hown
  have htab : c.exceptionTable.toList = [⟨0, 6, 7, 105⟩] := htab
  subst hz
  have hA : ∀ q : Nat, s.heap.size ≤ q → (va_A (bw qb cI b ++ sw qs cI s9 ++ uw qu cI cB u ++ kw qk qb qr qe qs qu qx qd cI kk) s.heap.size) q := fun q h => Or.inr h
  have hN : ∀ q : Nat, (va_A (bw qb cI b ++ sw qs cI s9 ++ uw qu cI cB u ++ kw qk qb qr qe qs qu qx qd cI kk) s.heap.size) q → N0 ≤ q := vA_N (ws := bw qb cI b ++ sw qs cI s9 ++ uw qu cI cB u ++ kw qk qb qr qe qs qu qx qd cI kk) hNa hsz
  have hD : gD (va_A (bw qb cI b ++ sw qs cI s9 ++ uw qu cI cB u ++ kw qk qb qr qe qs qu qx qd cI kk) s.heap.size) (bAd qb ++ sAd qs ++ uAd qu ++ kAd qk) := gD_vA (ws := bw qb cI b ++ sw qs cI s9 ++ uw qu cI cB u ++ kw qk qb qr qe qs qu qx qd cI kk) hDa
  have hS : va_S (va_A (bw qb cI b ++ sw qs cI s9 ++ uw qu cI cB u ++ kw qk qb qr qe qs qu qx qd cI kk) s.heap.size) s.heap s.heap [] := va_S.rf
  have hP : va_P (dC, dI) vwCl (bw qb cI b ++ sw qs cI s9 ++ uw qu cI cB u ++ kw qk qb qr qe qs qu qx qd cI kk) s.heap := hP
  refine lv_aload_n hx hb dL_sets_0 rfl (lv_at hl 0 rfl) ?_
  refine lv_iload_n hx hb dL_sets_1 rfl (lv_at hl 1 rfl) ?_
  refine lv_iload_n hx hb dL_sets_2 rfl (lv_at hl 2 rfl) ?_
  refine h_call (w0 := bw qb cI b ++ sw qs cI s9 ++ uw qu cI cB u ++ kw qk qb qr qe qs qu qx qd cI kk) (vx_runV (As := [.int a1, .int a2]) (rest := []) ⟨hx, hb, hml, hown, hts⟩ (mX11_set l hfl dC dI cI cB cO cL N0 sT eA qb qs qu qk qr qe qx qd b s9 u kk a1 a2 s.heap.size hsz (gD_any hD) hNa hok) (cwV 2 hts (gT_in gQ_X11_set_128) rfl rfl rfl (by decide +kernel) ⟨Nat.le_of_ble_eq_true rfl, Nat.le_of_ble_eq_true rfl⟩) ⟨zP_blind, va_recv hK hP (ci := 8) (q0 := 52) rfl rfl, zP_ok hP hK hF hS hN⟩ rfl rfl hl.1 rfl (lv_room (Nat.le_of_ble_eq_true rfl)) dL_sets_3 ⟨Nat.le_of_ble_eq_true rfl, Nat.le_of_ble_eq_true rfl⟩) (gD_va hD rfl) hS hA (fun hne q9 ce H locs hP hS hce hcv hcl => ?_) (fun h0 H locs hP hS => ?_)
  · have hx2 := hc.resolve_left hne
    have hcl : s.vm.findClass "java/lang/IllegalArgumentException" = some ce.cls := (congrArg (fun z => s.vm.findClass (xN z)) hx2).symm.trans hcl
    refine vx_catch (E := "java/lang/IllegalArgumentException") (name := "java/lang/IllegalArgumentException") hown [] ⟨0, 6, 7, 105⟩ [] htab (fun z hz => absurd hz List.not_mem_nil) rfl (by decide) (hts (.classLink RL 105 "java/lang/IllegalArgumentException") (gTt tw297)) (hF.2.1.cas _ cas2) hce hcv hcl ?_
    refine lv_astore_n (lv' := [(3, .ref q9), (0, .ref (qk 0)), (1, .int a1), (2, .int a2)]) hx hb dL_sets_7 rfl hl (by decide) rfl (fun ls hl => ?_)
    refine lv_ldc (v := (-100000002)) hx hb hown (hts (.constant RL 48 (-100000002)) (gTt tw443)) dL_sets_8 ?_
    exact e_H C0 (hF_x hne hx2 rfl) hP hS rfl rfl dL_sets_10
  · exact e_H C0 (hF_0 h0) hP hS rfl rfl dL_sets_6
abbrev rL_seeds : Room := { frames := 9, cells := 4, slots := 24, locals := 154 }
set_option maxHeartbeats 4000000 in
set_option maxRecDepth 100000 in
theorem mL_seeds (l : Launch) (hfl : l.stackTraces = false) (dC : Nat → ClassId) (dI : Nat → Nat → Nat) (cI cB cO cL : ClassId) (N0 : Nat) (sT eA : Nat → Nat) (qb : Nat → Nat) (qs : Nat → Nat) (qu : Nat → Nat) (qk : Nat → Nat) (qr : Nat → Nat) (qe : Nat → Nat) (qx : Nat → Nat) (qd : Nat → Nat) (b : BS) (s9 : SS) (u : US) (kk : Int32) (a1 : Int32) (sz : Nat) (hsz : N0 ≤ sz) (hDa : gD (fun _ => True) (bAd qb ++ sAd qs ++ uAd qu ++ kAd qk)) (hNa : ∀ a ∈ (bAd qb ++ sAd qs ++ uAd qu ++ kAd qk : List Nat), N0 ≤ a) (hok : kX11_setS b s9 u kk a1) (hc : (pX11_setS b s9 u kk a1).1 = 0 ∨ (pX11_setS b s9 u kk a1).1 = 2) : Met l yL_seeds wsT_seeds rL_seeds (lP N0 sz sT eA (dC, dI) (tYS cI cB cO cL) (bw qb cI b ++ sw qs cI s9 ++ uw qu cI cB u ++ kw qk qb qr qe qs qu qx qd cI kk) [.ref (qk 0), .int a1]) (hQ (dC, dI) (fun z9 : BS × SS × US × Int32 => bw qb cI z9.1 ++ sw qs cI z9.2.1 ++ uw qu cI cB z9.2.2.1 ++ kw qk qb qr qe qs qu qx qd cI z9.2.2.2) (va_A (bw qb cI b ++ sw qs cI s9 ++ uw qu cI cB u ++ kw qk qb qr qe qs qu qx qd cI kk) sz) (pX11_setS b s9 u kk a1)) 4 24 (va_A (bw qb cI b ++ sw qs cI s9 ++ uw qu cI cB u ++ kw qk qb qr qe qs qu qx qd cI kk) sz) := by
  refine lMet (cc := cL_seeds) (maxL := 3) (ret := some .int) (hh := [(0, 5, 6, 105)]) [(0, .ref (qk 0)), (1, .int a1)] (by decide) rfl rfl rfl ?_
  intro p e s mi below meth c C0 htab hz hK hF hC hP ls hl
  obtain ⟨hx, hb, hr, hml, hown, hts, hlocks⟩ := id C0
  have hown : s.vm.findClass RL = some mi.cls := hown
  have htab : c.exceptionTable.toList = [⟨0, 5, 6, 105⟩] := htab
  subst hz
  have hA : ∀ q : Nat, s.heap.size ≤ q → (va_A (bw qb cI b ++ sw qs cI s9 ++ uw qu cI cB u ++ kw qk qb qr qe qs qu qx qd cI kk) s.heap.size) q := fun q h => Or.inr h
  have hN : ∀ q : Nat, (va_A (bw qb cI b ++ sw qs cI s9 ++ uw qu cI cB u ++ kw qk qb qr qe qs qu qx qd cI kk) s.heap.size) q → N0 ≤ q := vA_N (ws := bw qb cI b ++ sw qs cI s9 ++ uw qu cI cB u ++ kw qk qb qr qe qs qu qx qd cI kk) hNa hsz
  have hD : gD (va_A (bw qb cI b ++ sw qs cI s9 ++ uw qu cI cB u ++ kw qk qb qr qe qs qu qx qd cI kk) s.heap.size) (bAd qb ++ sAd qs ++ uAd qu ++ kAd qk) := gD_vA (ws := bw qb cI b ++ sw qs cI s9 ++ uw qu cI cB u ++ kw qk qb qr qe qs qu qx qd cI kk) hDa
  have hS : va_S (va_A (bw qb cI b ++ sw qs cI s9 ++ uw qu cI cB u ++ kw qk qb qr qe qs qu qx qd cI kk) s.heap.size) s.heap s.heap [] := va_S.rf
  have hP : va_P (dC, dI) vwCl (bw qb cI b ++ sw qs cI s9 ++ uw qu cI cB u ++ kw qk qb qr qe qs qu qx qd cI kk) s.heap := hP
  refine lv_aload_n hx hb dL_seeds_0 rfl (lv_at hl 0 rfl) ?_
  refine lv_iload_n hx hb dL_seeds_1 rfl (lv_at hl 1 rfl) ?_
  refine h_call (w0 := bw qb cI b ++ sw qs cI s9 ++ uw qu cI cB u ++ kw qk qb qr qe qs qu qx qd cI kk) (vx_runV (As := [.int a1]) (rest := []) ⟨hx, hb, hml, hown, hts⟩ (mX11_setS l hfl dC dI cI cB cO cL N0 sT eA qb qs qu qk qr qe qx qd b s9 u kk a1 s.heap.size hsz (gD_any hD) hNa hok) (cwV 1 hts (gT_in gQ_X11_setS_131) rfl rfl rfl (by decide +kernel) ⟨Nat.le_of_ble_eq_true rfl, Nat.le_of_ble_eq_true rfl⟩) ⟨zP_blind, va_recv hK hP (ci := 8) (q0 := 52) rfl rfl, zP_ok hP hK hF hS hN⟩ rfl rfl hl.1 rfl (lv_room (Nat.le_of_ble_eq_true rfl)) dL_seeds_2 ⟨Nat.le_of_ble_eq_true rfl, Nat.le_of_ble_eq_true rfl⟩) (gD_va hD rfl) hS hA (fun hne q9 ce H locs hP hS hce hcv hcl => ?_) (fun h0 H locs hP hS => ?_)
  · have hx2 := hc.resolve_left hne
    have hcl : s.vm.findClass "java/lang/IllegalArgumentException" = some ce.cls := (congrArg (fun z => s.vm.findClass (xN z)) hx2).symm.trans hcl
    refine vx_catch (E := "java/lang/IllegalArgumentException") (name := "java/lang/IllegalArgumentException") hown [] ⟨0, 5, 6, 105⟩ [] htab (fun z hz => absurd hz List.not_mem_nil) rfl (by decide) (hts (.classLink RL 105 "java/lang/IllegalArgumentException") (gTt tw297)) (hF.2.1.cas _ cas2) hce hcv hcl ?_
    refine lv_astore_n (lv' := [(2, .ref q9), (0, .ref (qk 0)), (1, .int a1)]) hx hb dL_seeds_6 rfl hl (by decide) rfl (fun ls hl => ?_)
    refine lv_ldc (v := (-100000002)) hx hb hown (hts (.constant RL 48 (-100000002)) (gTt tw443)) dL_seeds_7 ?_
    exact e_H C0 (hF_x hne hx2 rfl) hP hS rfl rfl dL_seeds_9
  · exact e_H C0 (hF_0 h0) hP hS rfl rfl dL_seeds_5
abbrev rL_clocks : Room := { frames := 9, cells := 4, slots := 24, locals := 155 }
set_option maxHeartbeats 4000000 in
set_option maxRecDepth 100000 in
theorem mL_clocks (l : Launch) (hfl : l.stackTraces = false) (dC : Nat → ClassId) (dI : Nat → Nat → Nat) (cI cB cO cL : ClassId) (N0 : Nat) (sT eA : Nat → Nat) (qb : Nat → Nat) (qs : Nat → Nat) (qu : Nat → Nat) (qk : Nat → Nat) (qr : Nat → Nat) (qe : Nat → Nat) (qx : Nat → Nat) (qd : Nat → Nat) (b : BS) (s9 : SS) (u : US) (kk : Int32) (a1 : Int32) (a2 : Int32) (sz : Nat) (hsz : N0 ≤ sz) (hDa : gD (fun _ => True) (bAd qb ++ sAd qs ++ uAd qu ++ kAd qk)) (hNa : ∀ a ∈ (bAd qb ++ sAd qs ++ uAd qu ++ kAd qk : List Nat), N0 ≤ a) (hok : kX11_setClock b s9 u kk a1 a2) (hc : (pX11_setClock b s9 u kk a1 a2).1 = 0 ∨ (pX11_setClock b s9 u kk a1 a2).1 = 1 ∨ (pX11_setClock b s9 u kk a1 a2).1 = 2) : Met l yL_clocks wsT_clocks rL_clocks (lP N0 sz sT eA (dC, dI) (tYS cI cB cO cL) (bw qb cI b ++ sw qs cI s9 ++ uw qu cI cB u ++ kw qk qb qr qe qs qu qx qd cI kk) [.ref (qk 0), .int a1, .int a2]) (hQ (dC, dI) (fun z9 : BS × SS × US × Int32 => bw qb cI z9.1 ++ sw qs cI z9.2.1 ++ uw qu cI cB z9.2.2.1 ++ kw qk qb qr qe qs qu qx qd cI z9.2.2.2) (va_A (bw qb cI b ++ sw qs cI s9 ++ uw qu cI cB u ++ kw qk qb qr qe qs qu qx qd cI kk) sz) (pX11_setClock b s9 u kk a1 a2)) 4 24 (va_A (bw qb cI b ++ sw qs cI s9 ++ uw qu cI cB u ++ kw qk qb qr qe qs qu qx qd cI kk) sz) := by
  refine lMet (cc := cL_clocks) (maxL := 4) (ret := some .int) (hh := [(0, 6, 7, 115), (0, 6, 11, 105)]) [(0, .ref (qk 0)), (1, .int a1), (2, .int a2)] (by decide) rfl rfl rfl ?_
  intro p e s mi below meth c C0 htab hz hK hF hC hP ls hl
  obtain ⟨hx, hb, hr, hml, hown, hts, hlocks⟩ := id C0
  have hown : s.vm.findClass RL = some mi.cls := hown
  have htab : c.exceptionTable.toList = [⟨0, 6, 7, 115⟩, ⟨0, 6, 11, 105⟩] := htab
  subst hz
  have hA : ∀ q : Nat, s.heap.size ≤ q → (va_A (bw qb cI b ++ sw qs cI s9 ++ uw qu cI cB u ++ kw qk qb qr qe qs qu qx qd cI kk) s.heap.size) q := fun q h => Or.inr h
  have hN : ∀ q : Nat, (va_A (bw qb cI b ++ sw qs cI s9 ++ uw qu cI cB u ++ kw qk qb qr qe qs qu qx qd cI kk) s.heap.size) q → N0 ≤ q := vA_N (ws := bw qb cI b ++ sw qs cI s9 ++ uw qu cI cB u ++ kw qk qb qr qe qs qu qx qd cI kk) hNa hsz
  have hD : gD (va_A (bw qb cI b ++ sw qs cI s9 ++ uw qu cI cB u ++ kw qk qb qr qe qs qu qx qd cI kk) s.heap.size) (bAd qb ++ sAd qs ++ uAd qu ++ kAd qk) := gD_vA (ws := bw qb cI b ++ sw qs cI s9 ++ uw qu cI cB u ++ kw qk qb qr qe qs qu qx qd cI kk) hDa
  have hS : va_S (va_A (bw qb cI b ++ sw qs cI s9 ++ uw qu cI cB u ++ kw qk qb qr qe qs qu qx qd cI kk) s.heap.size) s.heap s.heap [] := va_S.rf
  have hP : va_P (dC, dI) vwCl (bw qb cI b ++ sw qs cI s9 ++ uw qu cI cB u ++ kw qk qb qr qe qs qu qx qd cI kk) s.heap := hP
  refine lv_aload_n hx hb dL_clocks_0 rfl (lv_at hl 0 rfl) ?_
  refine lv_iload_n hx hb dL_clocks_1 rfl (lv_at hl 1 rfl) ?_
  refine lv_iload_n hx hb dL_clocks_2 rfl (lv_at hl 2 rfl) ?_
  refine h_call (w0 := bw qb cI b ++ sw qs cI s9 ++ uw qu cI cB u ++ kw qk qb qr qe qs qu qx qd cI kk) (vx_runV (As := [.int a1, .int a2]) (rest := []) ⟨hx, hb, hml, hown, hts⟩ (mX11_setClock l hfl dC dI cI cB cO cL N0 sT eA qb qs qu qk qr qe qx qd b s9 u kk a1 a2 s.heap.size hsz (gD_any hD) hNa hok) (cwV 2 hts (gT_in gQ_X11_setClock_112) rfl rfl rfl (by decide +kernel) ⟨Nat.le_of_ble_eq_true rfl, Nat.le_of_ble_eq_true rfl⟩) ⟨zP_blind, va_recv hK hP (ci := 8) (q0 := 52) rfl rfl, zP_ok hP hK hF hS hN⟩ rfl rfl hl.1 rfl (lv_room (Nat.le_of_ble_eq_true rfl)) dL_clocks_3 ⟨Nat.le_of_ble_eq_true rfl, Nat.le_of_ble_eq_true rfl⟩) (gD_va hD rfl) hS hA (fun hne q9 ce H locs hP hS hce hcv hcl => ?_) (fun h0 H locs hP hS => ?_)
  · rcases hc.resolve_left hne with hx1 | hx2
    · have hcl : s.vm.findClass "java/lang/IndexOutOfBoundsException" = some ce.cls := (congrArg (fun z => s.vm.findClass (xN z)) hx1).symm.trans hcl
      refine vx_catch (E := "java/lang/IndexOutOfBoundsException") (name := "java/lang/IndexOutOfBoundsException") hown [] ⟨0, 6, 7, 115⟩ [⟨0, 6, 11, 105⟩] htab (fun z hz => absurd hz List.not_mem_nil) rfl (by decide) (hts (.classLink RL 115 "java/lang/IndexOutOfBoundsException") (gTt tw496)) (hF.2.1.cas _ cas1) hce hcv hcl ?_
      refine lv_astore_n (lv' := [(3, .ref q9), (0, .ref (qk 0)), (1, .int a1), (2, .int a2)]) hx hb dL_clocks_7 rfl hl (by decide) rfl (fun ls hl => ?_)
      refine lv_ldc (v := (-100000001)) hx hb hown (hts (.constant RL 63 (-100000001)) (gTt tw521)) dL_clocks_8 ?_
      exact e_H C0 (hF_x hne hx1 rfl) hP hS rfl rfl dL_clocks_10
    · have hcl : s.vm.findClass "java/lang/IllegalArgumentException" = some ce.cls := (congrArg (fun z => s.vm.findClass (xN z)) hx2).symm.trans hcl
      refine vx_catch (E := "java/lang/IllegalArgumentException") (name := "java/lang/IllegalArgumentException") hown [⟨0, 6, 7, 115⟩] ⟨0, 6, 11, 105⟩ [] htab (fun z hz => Or.inr (by rw [List.mem_singleton.mp hz]; exact ⟨by decide, "java/lang/IndexOutOfBoundsException", hts (.classLink RL 115 "java/lang/IndexOutOfBoundsException") (gTt tw496), hC.2.2.2.2.1⟩)) rfl (by decide) (hts (.classLink RL 105 "java/lang/IllegalArgumentException") (gTt tw297)) (hF.2.1.cas _ cas2) hce hcv hcl ?_
      refine lv_astore_n (lv' := [(3, .ref q9), (0, .ref (qk 0)), (1, .int a1), (2, .int a2)]) hx hb dL_clocks_11 rfl hl (by decide) rfl (fun ls hl => ?_)
      refine lv_ldc (v := (-100000002)) hx hb hown (hts (.constant RL 48 (-100000002)) (gTt tw443)) dL_clocks_12 ?_
      exact e_H C0 (hF_x hne hx2 rfl) hP hS rfl rfl dL_clocks_14
  · exact e_H C0 (hF_0 h0) hP hS rfl rfl dL_clocks_6
abbrev rL_knows : Room := { frames := 8, cells := 4, slots := 24, locals := 179 }
set_option maxHeartbeats 4000000 in
set_option maxRecDepth 100000 in
theorem mL_knows (l : Launch) (hfl : l.stackTraces = false) (dC : Nat → ClassId) (dI : Nat → Nat → Nat) (cI cB cO cL : ClassId) (N0 : Nat) (sT eA : Nat → Nat) (qe : Nat → Nat) (qb : Nat → Nat) (qs : Nat → Nat) (qu : Nat → Nat) (qk : Nat → Nat) (qr : Nat → Nat) (qx : Nat → Nat) (qd : Nat → Nat) (te : TS) (b : BS) (s9 : SS) (u : US) (kk : Int32) (a1 : Int32) (a2 : Int32) (a3 : Int32) (sz : Nat) (hsz : N0 ≤ sz) (hDa : gD (fun _ => True) (eAd qe ++ bAd qb ++ sAd qs ++ uAd qu ++ kAd qk)) (hNa : ∀ a ∈ (eAd qe ++ bAd qb ++ sAd qs ++ uAd qu ++ kAd qk : List Nat), N0 ≤ a) (hok : kX11_calibrate te b s9 u kk a1 a2 a3) (hc : (pX11_calibrate te b s9 u kk a1 a2 a3).1 = 0 ∨ (pX11_calibrate te b s9 u kk a1 a2 a3).1 = 2 ∨ (pX11_calibrate te b s9 u kk a1 a2 a3).1 = 3) : Met l yL_knows wsT_knows rL_knows (lP N0 sz sT eA (dC, dI) (tYS cI cB cO cL) (ew qe cI te ++ bw qb cI b ++ sw qs cI s9 ++ uw qu cI cB u ++ kw qk qb qr qe qs qu qx qd cI kk) [.ref (qk 0), .int a1, .int a2, .int a3]) (hQ (dC, dI) (fun z9 : TS × BS × SS × US × Int32 => ew qe cI z9.1 ++ bw qb cI z9.2.1 ++ sw qs cI z9.2.2.1 ++ uw qu cI cB z9.2.2.2.1 ++ kw qk qb qr qe qs qu qx qd cI z9.2.2.2.2) (va_A (ew qe cI te ++ bw qb cI b ++ sw qs cI s9 ++ uw qu cI cB u ++ kw qk qb qr qe qs qu qx qd cI kk) sz) (pX11_calibrate te b s9 u kk a1 a2 a3)) 4 24 (va_A (ew qe cI te ++ bw qb cI b ++ sw qs cI s9 ++ uw qu cI cB u ++ kw qk qb qr qe qs qu qx qd cI kk) sz) := by
  refine lMet (cc := cL_knows) (maxL := 5) (ret := some .int) (hh := [(0, 7, 8, 105), (0, 7, 13, 110)]) [(0, .ref (qk 0)), (1, .int a1), (2, .int a2), (3, .int a3)] (by decide) rfl rfl rfl ?_
  intro p e s mi below meth c C0 htab hz hK hF hC hP ls hl
  obtain ⟨hx, hb, hr, hml, hown, hts, hlocks⟩ := id C0
  have hown : s.vm.findClass RL = some mi.cls := hown
  have htab : c.exceptionTable.toList = [⟨0, 7, 8, 105⟩, ⟨0, 7, 13, 110⟩] := htab
  subst hz
  have hA : ∀ q : Nat, s.heap.size ≤ q → (va_A (ew qe cI te ++ bw qb cI b ++ sw qs cI s9 ++ uw qu cI cB u ++ kw qk qb qr qe qs qu qx qd cI kk) s.heap.size) q := fun q h => Or.inr h
  have hN : ∀ q : Nat, (va_A (ew qe cI te ++ bw qb cI b ++ sw qs cI s9 ++ uw qu cI cB u ++ kw qk qb qr qe qs qu qx qd cI kk) s.heap.size) q → N0 ≤ q := vA_N (ws := ew qe cI te ++ bw qb cI b ++ sw qs cI s9 ++ uw qu cI cB u ++ kw qk qb qr qe qs qu qx qd cI kk) hNa hsz
  have hD : gD (va_A (ew qe cI te ++ bw qb cI b ++ sw qs cI s9 ++ uw qu cI cB u ++ kw qk qb qr qe qs qu qx qd cI kk) s.heap.size) (eAd qe ++ bAd qb ++ sAd qs ++ uAd qu ++ kAd qk) := gD_vA (ws := ew qe cI te ++ bw qb cI b ++ sw qs cI s9 ++ uw qu cI cB u ++ kw qk qb qr qe qs qu qx qd cI kk) hDa
  have hS : va_S (va_A (ew qe cI te ++ bw qb cI b ++ sw qs cI s9 ++ uw qu cI cB u ++ kw qk qb qr qe qs qu qx qd cI kk) s.heap.size) s.heap s.heap [] := va_S.rf
  have hP : va_P (dC, dI) vwCl (ew qe cI te ++ bw qb cI b ++ sw qs cI s9 ++ uw qu cI cB u ++ kw qk qb qr qe qs qu qx qd cI kk) s.heap := hP
  refine lv_aload_n hx hb dL_knows_0 rfl (lv_at hl 0 rfl) ?_
  refine lv_iload_n hx hb dL_knows_1 rfl (lv_at hl 1 rfl) ?_
  refine lv_iload_n hx hb dL_knows_2 rfl (lv_at hl 2 rfl) ?_
  refine lv_iload_n hx hb dL_knows_3 rfl (lv_at hl 3 rfl) ?_
  refine h_call (w0 := ew qe cI te ++ bw qb cI b ++ sw qs cI s9 ++ uw qu cI cB u ++ kw qk qb qr qe qs qu qx qd cI kk) (vx_runV (As := [.int a1, .int a2, .int a3]) (rest := []) ⟨hx, hb, hml, hown, hts⟩ (mX11_calibrate l hfl dC dI cI cB cO cL N0 sT eA qe qb qs qu qk qr qx qd te b s9 u kk a1 a2 a3 s.heap.size hsz (gD_any hD) hNa hok) (cwV 3 hts (gT_in gQ_X11_calibrate_137) rfl rfl rfl (by decide +kernel) ⟨Nat.le_of_ble_eq_true rfl, Nat.le_of_ble_eq_true rfl⟩) ⟨zP_blind, va_recv hK hP (ci := 8) (q0 := 56) rfl rfl, zP_ok hP hK hF hS hN⟩ rfl rfl hl.1 rfl (lv_room (Nat.le_of_ble_eq_true rfl)) dL_knows_4 ⟨Nat.le_of_ble_eq_true rfl, Nat.le_of_ble_eq_true rfl⟩) (gD_va hD rfl) hS hA (fun hne q9 ce H locs hP hS hce hcv hcl => ?_) (fun h0 H locs hP hS => ?_)
  · rcases hc.resolve_left hne with hx2 | hx3
    · have hcl : s.vm.findClass "java/lang/IllegalArgumentException" = some ce.cls := (congrArg (fun z => s.vm.findClass (xN z)) hx2).symm.trans hcl
      refine vx_catch (E := "java/lang/IllegalArgumentException") (name := "java/lang/IllegalArgumentException") hown [] ⟨0, 7, 8, 105⟩ [⟨0, 7, 13, 110⟩] htab (fun z hz => absurd hz List.not_mem_nil) rfl (by decide) (hts (.classLink RL 105 "java/lang/IllegalArgumentException") (gTt tw297)) (hF.2.1.cas _ cas2) hce hcv hcl ?_
      refine lv_astore (lv' := [(4, .ref q9), (0, .ref (qk 0)), (1, .int a1), (2, .int a2), (3, .int a3)]) hx hb dL_knows_8 hl (by decide) rfl (fun ls hl => ?_)
      refine lv_ldc (v := (-100000002)) hx hb hown (hts (.constant RL 48 (-100000002)) (gTt tw443)) dL_knows_10 ?_
      exact e_H C0 (hF_x hne hx2 rfl) hP hS rfl rfl dL_knows_12
    · have hcl : s.vm.findClass "java/lang/IllegalStateException" = some ce.cls := (congrArg (fun z => s.vm.findClass (xN z)) hx3).symm.trans hcl
      refine vx_catch (E := "java/lang/IllegalStateException") (name := "java/lang/IllegalStateException") hown [⟨0, 7, 8, 105⟩] ⟨0, 7, 13, 110⟩ [] htab (fun z hz => Or.inr (by rw [List.mem_singleton.mp hz]; exact ⟨by decide, "java/lang/IllegalArgumentException", hts (.classLink RL 105 "java/lang/IllegalArgumentException") (gTt tw297), hC.2.1⟩)) rfl (by decide) (hts (.classLink RL 110 "java/lang/IllegalStateException") (gTt tw447)) (hF.2.1.cas _ cas3) hce hcv hcl ?_
      refine lv_astore (lv' := [(4, .ref q9), (0, .ref (qk 0)), (1, .int a1), (2, .int a2), (3, .int a3)]) hx hb dL_knows_13 hl (by decide) rfl (fun ls hl => ?_)
      refine lv_ldc (v := (-100000003)) hx hb hown (hts (.constant RL 95 (-100000003)) (gTt tw461)) dL_knows_15 ?_
      exact e_H C0 (hF_x hne hx3 rfl) hP hS rfl rfl dL_knows_17
  · exact e_H C0 (hF_0 h0) hP hS rfl rfl dL_knows_7
end HLP0
