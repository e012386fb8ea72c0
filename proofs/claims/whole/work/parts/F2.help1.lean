/-! THE LAW: its helpers (1) -/
section HLP1
abbrev rL_click : Room := { frames := 8, cells := 4, slots := 24, locals := 176 }
set_option maxHeartbeats 4000000 in
set_option maxRecDepth 100000 in
theorem mL_click (l : Launch) (hfl : l.stackTraces = false) (dC : Nat → ClassId) (dI : Nat → Nat → Nat) (cI cB cO cL : ClassId) (N0 : Nat) (sT eA : Nat → Nat) (qe : Nat → Nat) (qb : Nat → Nat) (qs : Nat → Nat) (qu : Nat → Nat) (qk : Nat → Nat) (qr : Nat → Nat) (qx : Nat → Nat) (qd : Nat → Nat) (te : TS) (b : BS) (s9 : SS) (u : US) (kk : Int32) (a1 : Int32) (a2 : Int32) (a3 : Int32) (ao : Nat) (o : Nat → Int64) (sz : Nat) (hsz : N0 ≤ sz) (hDa : gD (fun _ => True) (eAd qe ++ bAd qb ++ sAd qs ++ uAd qu ++ kAd qk ++ [ao])) (hNa : ∀ a ∈ (eAd qe ++ bAd qb ++ sAd qs ++ uAd qu ++ kAd qk ++ [ao] : List Nat), N0 ≤ a) (hok : kX11_click te b s9 u kk a1 a2 a3) (hc : (pX11_click te b s9 u kk a1 a2 a3).1 = 0 ∨ (pX11_click te b s9 u kk a1 a2 a3).1 = 2 ∨ (pX11_click te b s9 u kk a1 a2 a3).1 = 3) : Met l yL_click wsM_click rL_click (lP N0 sz sT eA (dC, dI) (tYS cI cB cO cL) (ew qe cI te ++ bw qb cI b ++ sw qs cI s9 ++ uw qu cI cB u ++ kw qk qb qr qe qs qu qx qd cI kk ++ lo cL ao o) [.ref (qk 0), .int a1, .int a2, .int a3, .ref ao]) (lQ (dC, dI) (fun z9 : TS × BS × SS × US × Int32 => ew qe cI z9.1 ++ bw qb cI z9.2.1 ++ sw qs cI z9.2.2.1 ++ uw qu cI cB z9.2.2.2.1 ++ kw qk qb qr qe qs qu qx qd cI z9.2.2.2.2) cL ao (va_A (ew qe cI te ++ bw qb cI b ++ sw qs cI s9 ++ uw qu cI cB u ++ kw qk qb qr qe qs qu qx qd cI kk ++ lo cL ao o) sz) 2 (pX11_click te b s9 u kk a1 a2 a3) o) 4 24 (va_A (ew qe cI te ++ bw qb cI b ++ sw qs cI s9 ++ uw qu cI cB u ++ kw qk qb qr qe qs qu qx qd cI kk ++ lo cL ao o) sz) := by
  refine lMet (cc := cL_click) (maxL := 6) (ret := some .int) (hh := [(0, 12, 15, 13), (0, 12, 19, 18)]) [(0, .ref (qk 0)), (1, .int a1), (2, .int a2), (3, .int a3), (4, .ref ao)] (by decide) rfl rfl rfl ?_
  intro p e s mi below meth c C0 htab hz hK hF hC hP ls hl
  obtain ⟨hx, hb, hr, hml, hown, hts, hlocks⟩ := id C0
  have hown : s.vm.findClass RL = some mi.cls := hown
  have htab : c.exceptionTable.toList = [⟨0, 12, 15, 13⟩, ⟨0, 12, 19, 18⟩] := htab
  subst hz
  have hA : ∀ q : Nat, s.heap.size ≤ q → (va_A (ew qe cI te ++ bw qb cI b ++ sw qs cI s9 ++ uw qu cI cB u ++ kw qk qb qr qe qs qu qx qd cI kk ++ lo cL ao o) s.heap.size) q := fun q h => Or.inr h
  have hN : ∀ q : Nat, (va_A (ew qe cI te ++ bw qb cI b ++ sw qs cI s9 ++ uw qu cI cB u ++ kw qk qb qr qe qs qu qx qd cI kk ++ lo cL ao o) s.heap.size) q → N0 ≤ q := vA_N (ws := ew qe cI te ++ bw qb cI b ++ sw qs cI s9 ++ uw qu cI cB u ++ kw qk qb qr qe qs qu qx qd cI kk ++ lo cL ao o) hNa hsz
  have hD : gD (va_A (ew qe cI te ++ bw qb cI b ++ sw qs cI s9 ++ uw qu cI cB u ++ kw qk qb qr qe qs qu qx qd cI kk ++ lo cL ao o) s.heap.size) (eAd qe ++ bAd qb ++ sAd qs ++ uAd qu ++ kAd qk ++ [ao]) := gD_vA (ws := ew qe cI te ++ bw qb cI b ++ sw qs cI s9 ++ uw qu cI cB u ++ kw qk qb qr qe qs qu qx qd cI kk ++ lo cL ao o) hDa
  have hS : va_S (va_A (ew qe cI te ++ bw qb cI b ++ sw qs cI s9 ++ uw qu cI cB u ++ kw qk qb qr qe qs qu qx qd cI kk ++ lo cL ao o) s.heap.size) s.heap s.heap [] := va_S.rf
  have hPc : va_P (dC, dI) vwCl (ew qe cI te ++ bw qb cI b ++ sw qs cI s9 ++ uw qu cI cB u ++ kw qk qb qr qe qs qu qx qd cI kk) s.heap := va_P_pre hP
  refine lv_aload hx hb dL_click_0 (lv_at hl 4 rfl) ?_
  refine lv_iconst (v := 0) hx hb dL_click_2 (by decide) ?_
  refine lv_aload_n hx hb dL_click_3 rfl (lv_at hl 0 rfl) ?_
  refine lv_iload_n hx hb dL_click_4 rfl (lv_at hl 1 rfl) ?_
  refine lv_iload_n hx hb dL_click_5 rfl (lv_at hl 2 rfl) ?_
  refine lv_iload_n hx hb dL_click_6 rfl (lv_at hl 3 rfl) ?_
  refine l_call (w0 := ew qe cI te ++ bw qb cI b ++ sw qs cI s9 ++ uw qu cI cB u ++ kw qk qb qr qe qs qu qx qd cI kk) (wo := lo cL ao o) (vx_runV (As := [.int a1, .int a2, .int a3]) (rest := [.int 0, .ref ao]) ⟨hx, hb, hml, hown, hts⟩ (mX11_click l hfl dC dI cI cB cO cL N0 sT eA qe qb qs qu qk qr qx qd te b s9 u kk a1 a2 a3 s.heap.size hsz (gD_pre hDa) (fun a h => hNa a (List.mem_append_left _ h)) hok) (cwV 3 hts gM_click rfl rfl rfl (by decide +kernel) ⟨Nat.le_of_ble_eq_true rfl, Nat.le_of_ble_eq_true rfl⟩) ⟨zP_blind, va_recv hK hPc (ci := 8) (q0 := 56) rfl rfl, zP_ok hPc hK hF hS hN⟩ rfl rfl hl.1 rfl (lv_room (Nat.le_of_ble_eq_true rfl)) dL_click_7 ⟨Nat.le_of_ble_eq_true rfl, Nat.le_of_ble_eq_true rfl⟩) hP (gD_va hD rfl) hS hA (fun hne q9 ce H locs hP hS hce hcv hcl => ?_) (fun h0 H locs hP hS => ?_)
  · rcases hc.resolve_left hne with hx2 | hx3
    · have hcl : s.vm.findClass "java/lang/IllegalArgumentException" = some ce.cls := (congrArg (fun z => s.vm.findClass (xN z)) hx2).symm.trans hcl
      refine vx_catch (E := "java/lang/IllegalArgumentException") (name := "java/lang/IllegalArgumentException") hown [] ⟨0, 12, 15, 13⟩ [⟨0, 12, 19, 18⟩] htab (fun z hz => absurd hz List.not_mem_nil) rfl (by decide) (hts (.classLink RL 13 "java/lang/IllegalArgumentException") (by decide +kernel)) (hF.2.1.cas _ cas2) hce hcv hcl ?_
      refine lv_astore (lv' := [(5, .ref q9), (0, .ref (qk 0)), (1, .int a1), (2, .int a2), (3, .int a3), (4, .ref ao)]) hx hb dL_click_15 hl (by decide) rfl (fun ls hl => ?_)
      refine lv_iconst (v := 1) hx hb dL_click_17 (by decide) ?_
      exact e_L C0 (lF_1 hne hx2) hP hS rfl rfl dL_click_18
    · have hcl : s.vm.findClass "java/lang/IllegalStateException" = some ce.cls := (congrArg (fun z => s.vm.findClass (xN z)) hx3).symm.trans hcl
      refine vx_catch (E := "java/lang/IllegalStateException") (name := "java/lang/IllegalStateException") hown [⟨0, 12, 15, 13⟩] ⟨0, 12, 19, 18⟩ [] htab (fun z hz => Or.inr (by rw [List.mem_singleton.mp hz]; exact ⟨by decide, "java/lang/IllegalArgumentException", hts (.classLink RL 13 "java/lang/IllegalArgumentException") (by decide +kernel), hC.2.1⟩)) rfl (by decide) (hts (.classLink RL 18 "java/lang/IllegalStateException") (by decide +kernel)) (hF.2.1.cas _ cas3) hce hcv hcl ?_
      refine lv_astore (lv' := [(5, .ref q9), (0, .ref (qk 0)), (1, .int a1), (2, .int a2), (3, .int a3), (4, .ref ao)]) hx hb dL_click_19 hl (by decide) rfl (fun ls hl => ?_)
      refine lv_iconst (v := 2) hx hb dL_click_21 (by decide) ?_
      exact e_L C0 (lF_2 hne (by rw [hx3]; decide)) hP hS rfl rfl dL_click_22
  · refine lv_i2l hx hb dL_click_10 rfl ?_
    refine va_last (D := (dC, dI)) (tys := tYS cI cB cO cL) hx hb hK hP (gD_va hD rfl) hS 57 3 rfl rfl (vp_in_n (i := 0) (by omega) (by omega)) dL_click_11 (fun H locs hP hD hS => ?_)
    refine lv_goto (tgt := 23) hx hb dL_click_12 (by decide) ?_
    refine lv_iconst (v := 0) hx hb dL_click_23 (by decide) ?_
    exact e_L C0 (lF_0 h0) hP hS rfl rfl dL_click_24
abbrev rL_calibrate : Room := { frames := 8, cells := 4, slots := 24, locals := 179 }
set_option maxHeartbeats 4000000 in
set_option maxRecDepth 100000 in
theorem mL_calibrate (l : Launch) (hfl : l.stackTraces = false) (dC : Nat → ClassId) (dI : Nat → Nat → Nat) (cI cB cO cL : ClassId) (N0 : Nat) (sT eA : Nat → Nat) (qe : Nat → Nat) (qb : Nat → Nat) (qs : Nat → Nat) (qu : Nat → Nat) (qk : Nat → Nat) (qr : Nat → Nat) (qx : Nat → Nat) (qd : Nat → Nat) (te : TS) (b : BS) (s9 : SS) (u : US) (kk : Int32) (a1 : Int32) (a2 : Int32) (a3 : Int32) (ao : Nat) (o : Nat → Int64) (sz : Nat) (hsz : N0 ≤ sz) (hDa : gD (fun _ => True) (eAd qe ++ bAd qb ++ sAd qs ++ uAd qu ++ kAd qk ++ [ao])) (hNa : ∀ a ∈ (eAd qe ++ bAd qb ++ sAd qs ++ uAd qu ++ kAd qk ++ [ao] : List Nat), N0 ≤ a) (hok : kX11_calibrate te b s9 u kk a1 a2 a3) (hc : (pX11_calibrate te b s9 u kk a1 a2 a3).1 = 0 ∨ (pX11_calibrate te b s9 u kk a1 a2 a3).1 = 2 ∨ (pX11_calibrate te b s9 u kk a1 a2 a3).1 = 3) : Met l yL_calibrate wsM_calibrate rL_calibrate (lP N0 sz sT eA (dC, dI) (tYS cI cB cO cL) (ew qe cI te ++ bw qb cI b ++ sw qs cI s9 ++ uw qu cI cB u ++ kw qk qb qr qe qs qu qx qd cI kk ++ lo cL ao o) [.ref (qk 0), .int a1, .int a2, .int a3, .ref ao]) (lQ (dC, dI) (fun z9 : TS × BS × SS × US × Int32 => ew qe cI z9.1 ++ bw qb cI z9.2.1 ++ sw qs cI z9.2.2.1 ++ uw qu cI cB z9.2.2.2.1 ++ kw qk qb qr qe qs qu qx qd cI z9.2.2.2.2) cL ao (va_A (ew qe cI te ++ bw qb cI b ++ sw qs cI s9 ++ uw qu cI cB u ++ kw qk qb qr qe qs qu qx qd cI kk ++ lo cL ao o) sz) 2 (pX11_calibrate te b s9 u kk a1 a2 a3) o) 4 24 (va_A (ew qe cI te ++ bw qb cI b ++ sw qs cI s9 ++ uw qu cI cB u ++ kw qk qb qr qe qs qu qx qd cI kk ++ lo cL ao o) sz) := by
  refine lMet (cc := cL_calibrate) (maxL := 6) (ret := some .int) (hh := [(0, 12, 15, 13), (0, 12, 19, 18)]) [(0, .ref (qk 0)), (1, .int a1), (2, .int a2), (3, .int a3), (4, .ref ao)] (by decide) rfl rfl rfl ?_
  intro p e s mi below meth c C0 htab hz hK hF hC hP ls hl
  obtain ⟨hx, hb, hr, hml, hown, hts, hlocks⟩ := id C0
  have hown : s.vm.findClass RL = some mi.cls := hown
  have htab : c.exceptionTable.toList = [⟨0, 12, 15, 13⟩, ⟨0, 12, 19, 18⟩] := htab
  subst hz
  have hA : ∀ q : Nat, s.heap.size ≤ q → (va_A (ew qe cI te ++ bw qb cI b ++ sw qs cI s9 ++ uw qu cI cB u ++ kw qk qb qr qe qs qu qx qd cI kk ++ lo cL ao o) s.heap.size) q := fun q h => Or.inr h
  have hN : ∀ q : Nat, (va_A (ew qe cI te ++ bw qb cI b ++ sw qs cI s9 ++ uw qu cI cB u ++ kw qk qb qr qe qs qu qx qd cI kk ++ lo cL ao o) s.heap.size) q → N0 ≤ q := vA_N (ws := ew qe cI te ++ bw qb cI b ++ sw qs cI s9 ++ uw qu cI cB u ++ kw qk qb qr qe qs qu qx qd cI kk ++ lo cL ao o) hNa hsz
  have hD : gD (va_A (ew qe cI te ++ bw qb cI b ++ sw qs cI s9 ++ uw qu cI cB u ++ kw qk qb qr qe qs qu qx qd cI kk ++ lo cL ao o) s.heap.size) (eAd qe ++ bAd qb ++ sAd qs ++ uAd qu ++ kAd qk ++ [ao]) := gD_vA (ws := ew qe cI te ++ bw qb cI b ++ sw qs cI s9 ++ uw qu cI cB u ++ kw qk qb qr qe qs qu qx qd cI kk ++ lo cL ao o) hDa
  have hS : va_S (va_A (ew qe cI te ++ bw qb cI b ++ sw qs cI s9 ++ uw qu cI cB u ++ kw qk qb qr qe qs qu qx qd cI kk ++ lo cL ao o) s.heap.size) s.heap s.heap [] := va_S.rf
  have hPc : va_P (dC, dI) vwCl (ew qe cI te ++ bw qb cI b ++ sw qs cI s9 ++ uw qu cI cB u ++ kw qk qb qr qe qs qu qx qd cI kk) s.heap := va_P_pre hP
  refine lv_aload hx hb dL_calibrate_0 (lv_at hl 4 rfl) ?_
  refine lv_iconst (v := 0) hx hb dL_calibrate_2 (by decide) ?_
  refine lv_aload_n hx hb dL_calibrate_3 rfl (lv_at hl 0 rfl) ?_
  refine lv_iload_n hx hb dL_calibrate_4 rfl (lv_at hl 1 rfl) ?_
  refine lv_iload_n hx hb dL_calibrate_5 rfl (lv_at hl 2 rfl) ?_
  refine lv_iload_n hx hb dL_calibrate_6 rfl (lv_at hl 3 rfl) ?_
  refine l_call (w0 := ew qe cI te ++ bw qb cI b ++ sw qs cI s9 ++ uw qu cI cB u ++ kw qk qb qr qe qs qu qx qd cI kk) (wo := lo cL ao o) (vx_runV (As := [.int a1, .int a2, .int a3]) (rest := [.int 0, .ref ao]) ⟨hx, hb, hml, hown, hts⟩ (mX11_calibrate l hfl dC dI cI cB cO cL N0 sT eA qe qb qs qu qk qr qx qd te b s9 u kk a1 a2 a3 s.heap.size hsz (gD_pre hDa) (fun a h => hNa a (List.mem_append_left _ h)) hok) (cwV 3 hts gM_calibrate rfl rfl rfl (by decide +kernel) ⟨Nat.le_of_ble_eq_true rfl, Nat.le_of_ble_eq_true rfl⟩) ⟨zP_blind, va_recv hK hPc (ci := 8) (q0 := 56) rfl rfl, zP_ok hPc hK hF hS hN⟩ rfl rfl hl.1 rfl (lv_room (Nat.le_of_ble_eq_true rfl)) dL_calibrate_7 ⟨Nat.le_of_ble_eq_true rfl, Nat.le_of_ble_eq_true rfl⟩) hP (gD_va hD rfl) hS hA (fun hne q9 ce H locs hP hS hce hcv hcl => ?_) (fun h0 H locs hP hS => ?_)
  · rcases hc.resolve_left hne with hx2 | hx3
    · have hcl : s.vm.findClass "java/lang/IllegalArgumentException" = some ce.cls := (congrArg (fun z => s.vm.findClass (xN z)) hx2).symm.trans hcl
      refine vx_catch (E := "java/lang/IllegalArgumentException") (name := "java/lang/IllegalArgumentException") hown [] ⟨0, 12, 15, 13⟩ [⟨0, 12, 19, 18⟩] htab (fun z hz => absurd hz List.not_mem_nil) rfl (by decide) (hts (.classLink RL 13 "java/lang/IllegalArgumentException") (by decide +kernel)) (hF.2.1.cas _ cas2) hce hcv hcl ?_
      refine lv_astore (lv' := [(5, .ref q9), (0, .ref (qk 0)), (1, .int a1), (2, .int a2), (3, .int a3), (4, .ref ao)]) hx hb dL_calibrate_15 hl (by decide) rfl (fun ls hl => ?_)
      refine lv_iconst (v := 1) hx hb dL_calibrate_17 (by decide) ?_
      exact e_L C0 (lF_1 hne hx2) hP hS rfl rfl dL_calibrate_18
    · have hcl : s.vm.findClass "java/lang/IllegalStateException" = some ce.cls := (congrArg (fun z => s.vm.findClass (xN z)) hx3).symm.trans hcl
      refine vx_catch (E := "java/lang/IllegalStateException") (name := "java/lang/IllegalStateException") hown [⟨0, 12, 15, 13⟩] ⟨0, 12, 19, 18⟩ [] htab (fun z hz => Or.inr (by rw [List.mem_singleton.mp hz]; exact ⟨by decide, "java/lang/IllegalArgumentException", hts (.classLink RL 13 "java/lang/IllegalArgumentException") (by decide +kernel), hC.2.1⟩)) rfl (by decide) (hts (.classLink RL 18 "java/lang/IllegalStateException") (by decide +kernel)) (hF.2.1.cas _ cas3) hce hcv hcl ?_
      refine lv_astore (lv' := [(5, .ref q9), (0, .ref (qk 0)), (1, .int a1), (2, .int a2), (3, .int a3), (4, .ref ao)]) hx hb dL_calibrate_19 hl (by decide) rfl (fun ls hl => ?_)
      refine lv_iconst (v := 2) hx hb dL_calibrate_21 (by decide) ?_
      exact e_L C0 (lF_2 hne (by rw [hx3]; decide)) hP hS rfl rfl dL_calibrate_22
  · refine lv_i2l hx hb dL_calibrate_10 rfl ?_
    refine va_last (D := (dC, dI)) (tys := tYS cI cB cO cL) hx hb hK hP (gD_va hD rfl) hS 57 3 rfl rfl (vp_in_n (i := 0) (by omega) (by omega)) dL_calibrate_11 (fun H locs hP hD hS => ?_)
    refine lv_goto (tgt := 23) hx hb dL_calibrate_12 (by decide) ?_
    refine lv_iconst (v := 0) hx hb dL_calibrate_23 (by decide) ?_
    exact e_L C0 (lF_0 h0) hP hS rfl rfl dL_calibrate_24
abbrev rL_note : Room := { frames := 9, cells := 4, slots := 24, locals := 153 }
set_option maxHeartbeats 4000000 in
set_option maxRecDepth 100000 in
theorem mL_note (l : Launch) (hfl : l.stackTraces = false) (dC : Nat → ClassId) (dI : Nat → Nat → Nat) (cI cB cO cL : ClassId) (N0 : Nat) (sT eA : Nat → Nat) (qb : Nat → Nat) (qk : Nat → Nat) (qr : Nat → Nat) (qe : Nat → Nat) (qs : Nat → Nat) (qu : Nat → Nat) (qx : Nat → Nat) (qd : Nat → Nat) (b : BS) (kk : Int32) (a1 : Int32) (ao : Nat) (o : Nat → Int64) (sz : Nat) (hsz : N0 ≤ sz) (hDa : gD (fun _ => True) (bAd qb ++ kAd qk ++ [ao])) (hNa : ∀ a ∈ (bAd qb ++ kAd qk ++ [ao] : List Nat), N0 ≤ a) (hok : kX11_note b kk a1) (hc : (pX11_note b kk a1).1 = 0 ∨ (pX11_note b kk a1).1 = 1) : Met l yL_note wsM_note rL_note (lP N0 sz sT eA (dC, dI) (tYS cI cB cO cL) (bw qb cI b ++ kw qk qb qr qe qs qu qx qd cI kk ++ lo cL ao o) [.ref (qk 0), .int a1, .ref ao]) (lQ (dC, dI) (fun z9 : BS × Int32 => bw qb cI z9.1 ++ kw qk qb qr qe qs qu qx qd cI z9.2) cL ao (va_A (bw qb cI b ++ kw qk qb qr qe qs qu qx qd cI kk ++ lo cL ao o) sz) 1 (pX11_note b kk a1) o) 4 24 (va_A (bw qb cI b ++ kw qk qb qr qe qs qu qx qd cI kk ++ lo cL ao o) sz) := by
  refine lMet (cc := cL_note) (maxL := 4) (ret := some .int) (hh := [(0, 9, 12, 23)]) [(0, .ref (qk 0)), (1, .int a1), (2, .ref ao)] (by decide) rfl rfl rfl ?_
  intro p e s mi below meth c C0 htab hz hK hF hC hP ls hl
  obtain ⟨hx, hb, hr, hml, hown, hts, hlocks⟩ := id C0
  have hown : s.vm.findClass RL = some mi.cls := hown
  have htab : c.exceptionTable.toList = [⟨0, 9, 12, 23⟩] := htab
  subst hz
  have hA : ∀ q : Nat, s.heap.size ≤ q → (va_A (bw qb cI b ++ kw qk qb qr qe qs qu qx qd cI kk ++ lo cL ao o) s.heap.size) q := fun q h => Or.inr h
  have hN : ∀ q : Nat, (va_A (bw qb cI b ++ kw qk qb qr qe qs qu qx qd cI kk ++ lo cL ao o) s.heap.size) q → N0 ≤ q := vA_N (ws := bw qb cI b ++ kw qk qb qr qe qs qu qx qd cI kk ++ lo cL ao o) hNa hsz
  have hD : gD (va_A (bw qb cI b ++ kw qk qb qr qe qs qu qx qd cI kk ++ lo cL ao o) s.heap.size) (bAd qb ++ kAd qk ++ [ao]) := gD_vA (ws := bw qb cI b ++ kw qk qb qr qe qs qu qx qd cI kk ++ lo cL ao o) hDa
  have hS : va_S (va_A (bw qb cI b ++ kw qk qb qr qe qs qu qx qd cI kk ++ lo cL ao o) s.heap.size) s.heap s.heap [] := va_S.rf
  have hPc : va_P (dC, dI) vwCl (bw qb cI b ++ kw qk qb qr qe qs qu qx qd cI kk) s.heap := va_P_pre hP
  refine lv_aload_n hx hb dL_note_0 rfl (lv_at hl 2 rfl) ?_
  refine lv_iconst (v := 0) hx hb dL_note_1 (by decide) ?_
  refine lv_aload_n hx hb dL_note_2 rfl (lv_at hl 0 rfl) ?_
  refine lv_iload_n hx hb dL_note_3 rfl (lv_at hl 1 rfl) ?_
  refine l_call (w0 := bw qb cI b ++ kw qk qb qr qe qs qu qx qd cI kk) (wo := lo cL ao o) (vx_runV (As := [.int a1]) (rest := [.int 0, .ref ao]) ⟨hx, hb, hml, hown, hts⟩ (mX11_note l hfl dC dI cI cB cO cL N0 sT eA qb qk qr qe qs qu qx qd b kk a1 s.heap.size hsz (gD_pre hDa) (fun a h => hNa a (List.mem_append_left _ h)) hok) (cwV 1 hts gM_note rfl rfl rfl (by decide +kernel) ⟨Nat.le_of_ble_eq_true rfl, Nat.le_of_ble_eq_true rfl⟩) ⟨zP_blind, va_recv hK hPc (ci := 8) (q0 := 9) rfl rfl, zP_ok hPc hK hF hS hN⟩ rfl rfl hl.1 rfl (lv_room (Nat.le_of_ble_eq_true rfl)) dL_note_4 ⟨Nat.le_of_ble_eq_true rfl, Nat.le_of_ble_eq_true rfl⟩) hP (gD_va hD rfl) hS hA (fun hne q9 ce H locs hP hS hce hcv hcl => ?_) (fun h0 H locs hP hS => ?_)
  · have hx1 := hc.resolve_left hne
    have hcl : s.vm.findClass "java/lang/IndexOutOfBoundsException" = some ce.cls := (congrArg (fun z => s.vm.findClass (xN z)) hx1).symm.trans hcl
    refine vx_catch (E := "java/lang/IndexOutOfBoundsException") (name := "java/lang/IndexOutOfBoundsException") hown [] ⟨0, 9, 12, 23⟩ [] htab (fun z hz => absurd hz List.not_mem_nil) rfl (by decide) (hts (.classLink RL 23 "java/lang/IndexOutOfBoundsException") (by decide +kernel)) (hF.2.1.cas _ cas1) hce hcv hcl ?_
    refine lv_astore_n (lv' := [(3, .ref q9), (0, .ref (qk 0)), (1, .int a1), (2, .ref ao)]) hx hb dL_note_12 rfl hl (by decide) rfl (fun ls hl => ?_)
    refine lv_iconst (v := 1) hx hb dL_note_13 (by decide) ?_
    exact e_L C0 (lF_1 hne hx1) hP hS rfl rfl dL_note_14
  · refine lv_i2l hx hb dL_note_7 rfl ?_
    refine va_last (D := (dC, dI)) (tys := tYS cI cB cO cL) hx hb hK hP (gD_va hD rfl) hS 10 3 rfl rfl (vp_in_n (i := 0) (by omega) (by omega)) dL_note_8 (fun H locs hP hD hS => ?_)
    refine lv_goto (tgt := 15) hx hb dL_note_9 (by decide) ?_
    refine lv_iconst (v := 0) hx hb dL_note_15 (by decide) ?_
    exact e_L C0 (lF_0 h0) hP hS rfl rfl dL_note_16
abbrev rL_heard : Room := { frames := 9, cells := 4, slots := 24, locals := 154 }
set_option maxHeartbeats 4000000 in
set_option maxRecDepth 100000 in
theorem mL_heard (l : Launch) (hfl : l.stackTraces = false) (dC : Nat → ClassId) (dI : Nat → Nat → Nat) (cI cB cO cL : ClassId) (N0 : Nat) (sT eA : Nat → Nat) (qb : Nat → Nat) (qk : Nat → Nat) (qr : Nat → Nat) (qe : Nat → Nat) (qs : Nat → Nat) (qu : Nat → Nat) (qx : Nat → Nat) (qd : Nat → Nat) (b : BS) (kk : Int32) (a1 : Int32) (a2 : Int32) (ao : Nat) (o : Nat → Int64) (sz : Nat) (hsz : N0 ≤ sz) (hDa : gD (fun _ => True) (bAd qb ++ kAd qk ++ [ao])) (hNa : ∀ a ∈ (bAd qb ++ kAd qk ++ [ao] : List Nat), N0 ≤ a) (hok : kX11_heard b kk a1 a2) (hc : (pX11_heard b kk a1 a2).1 = 0 ∨ (pX11_heard b kk a1 a2).1 = 1 ∨ (pX11_heard b kk a1 a2).1 = 2) : Met l yL_heard wsM_heard rL_heard (lP N0 sz sT eA (dC, dI) (tYS cI cB cO cL) (bw qb cI b ++ kw qk qb qr qe qs qu qx qd cI kk ++ lo cL ao o) [.ref (qk 0), .int a1, .int a2, .ref ao]) (lQ (dC, dI) (fun z9 : BS × Int32 => bw qb cI z9.1 ++ kw qk qb qr qe qs qu qx qd cI z9.2) cL ao (va_A (bw qb cI b ++ kw qk qb qr qe qs qu qx qd cI kk ++ lo cL ao o) sz) 1 (pX11_heard b kk a1 a2) o) 4 24 (va_A (bw qb cI b ++ kw qk qb qr qe qs qu qx qd cI kk ++ lo cL ao o) sz) := by
  refine lMet (cc := cL_heard) (maxL := 5) (ret := some .int) (hh := [(0, 10, 13, 23), (0, 10, 17, 13)]) [(0, .ref (qk 0)), (1, .int a1), (2, .int a2), (3, .ref ao)] (by decide) rfl rfl rfl ?_
  intro p e s mi below meth c C0 htab hz hK hF hC hP ls hl
  obtain ⟨hx, hb, hr, hml, hown, hts, hlocks⟩ := id C0
  have hown : s.vm.findClass RL = some mi.cls := hown
  have htab : c.exceptionTable.toList = [⟨0, 10, 13, 23⟩, ⟨0, 10, 17, 13⟩] := htab
  subst hz
  have hA : ∀ q : Nat, s.heap.size ≤ q → (va_A (bw qb cI b ++ kw qk qb qr qe qs qu qx qd cI kk ++ lo cL ao o) s.heap.size) q := fun q h => Or.inr h
  have hN : ∀ q : Nat, (va_A (bw qb cI b ++ kw qk qb qr qe qs qu qx qd cI kk ++ lo cL ao o) s.heap.size) q → N0 ≤ q := vA_N (ws := bw qb cI b ++ kw qk qb qr qe qs qu qx qd cI kk ++ lo cL ao o) hNa hsz
  have hD : gD (va_A (bw qb cI b ++ kw qk qb qr qe qs qu qx qd cI kk ++ lo cL ao o) s.heap.size) (bAd qb ++ kAd qk ++ [ao]) := gD_vA (ws := bw qb cI b ++ kw qk qb qr qe qs qu qx qd cI kk ++ lo cL ao o) hDa
  have hS : va_S (va_A (bw qb cI b ++ kw qk qb qr qe qs qu qx qd cI kk ++ lo cL ao o) s.heap.size) s.heap s.heap [] := va_S.rf
  have hPc : va_P (dC, dI) vwCl (bw qb cI b ++ kw qk qb qr qe qs qu qx qd cI kk) s.heap := va_P_pre hP
  refine lv_aload_n hx hb dL_heard_0 rfl (lv_at hl 3 rfl) ?_
  refine lv_iconst (v := 0) hx hb dL_heard_1 (by decide) ?_
  refine lv_aload_n hx hb dL_heard_2 rfl (lv_at hl 0 rfl) ?_
  refine lv_iload_n hx hb dL_heard_3 rfl (lv_at hl 1 rfl) ?_
  refine lv_iload_n hx hb dL_heard_4 rfl (lv_at hl 2 rfl) ?_
  refine l_call (w0 := bw qb cI b ++ kw qk qb qr qe qs qu qx qd cI kk) (wo := lo cL ao o) (vx_runV (As := [.int a1, .int a2]) (rest := [.int 0, .ref ao]) ⟨hx, hb, hml, hown, hts⟩ (mX11_heard l hfl dC dI cI cB cO cL N0 sT eA qb qk qr qe qs qu qx qd b kk a1 a2 s.heap.size hsz (gD_pre hDa) (fun a h => hNa a (List.mem_append_left _ h)) hok) (cwV 2 hts gM_heard rfl rfl rfl (by decide +kernel) ⟨Nat.le_of_ble_eq_true rfl, Nat.le_of_ble_eq_true rfl⟩) ⟨zP_blind, va_recv hK hPc (ci := 8) (q0 := 9) rfl rfl, zP_ok hPc hK hF hS hN⟩ rfl rfl hl.1 rfl (lv_room (Nat.le_of_ble_eq_true rfl)) dL_heard_5 ⟨Nat.le_of_ble_eq_true rfl, Nat.le_of_ble_eq_true rfl⟩) hP (gD_va hD rfl) hS hA (fun hne q9 ce H locs hP hS hce hcv hcl => ?_) (fun h0 H locs hP hS => ?_)
  · rcases hc.resolve_left hne with hx1 | hx2
    · have hcl : s.vm.findClass "java/lang/IndexOutOfBoundsException" = some ce.cls := (congrArg (fun z => s.vm.findClass (xN z)) hx1).symm.trans hcl
      refine vx_catch (E := "java/lang/IndexOutOfBoundsException") (name := "java/lang/IndexOutOfBoundsException") hown [] ⟨0, 10, 13, 23⟩ [⟨0, 10, 17, 13⟩] htab (fun z hz => absurd hz List.not_mem_nil) rfl (by decide) (hts (.classLink RL 23 "java/lang/IndexOutOfBoundsException") (by decide +kernel)) (hF.2.1.cas _ cas1) hce hcv hcl ?_
      refine lv_astore (lv' := [(4, .ref q9), (0, .ref (qk 0)), (1, .int a1), (2, .int a2), (3, .ref ao)]) hx hb dL_heard_13 hl (by decide) rfl (fun ls hl => ?_)
      refine lv_iconst (v := 1) hx hb dL_heard_15 (by decide) ?_
      exact e_L C0 (lF_1 hne hx1) hP hS rfl rfl dL_heard_16
    · have hcl : s.vm.findClass "java/lang/IllegalArgumentException" = some ce.cls := (congrArg (fun z => s.vm.findClass (xN z)) hx2).symm.trans hcl
      refine vx_catch (E := "java/lang/IllegalArgumentException") (name := "java/lang/IllegalArgumentException") hown [⟨0, 10, 13, 23⟩] ⟨0, 10, 17, 13⟩ [] htab (fun z hz => Or.inr (by rw [List.mem_singleton.mp hz]; exact ⟨by decide, "java/lang/IndexOutOfBoundsException", hts (.classLink RL 23 "java/lang/IndexOutOfBoundsException") (by decide +kernel), hC.2.2.2.2.1⟩)) rfl (by decide) (hts (.classLink RL 13 "java/lang/IllegalArgumentException") (by decide +kernel)) (hF.2.1.cas _ cas2) hce hcv hcl ?_
      refine lv_astore (lv' := [(4, .ref q9), (0, .ref (qk 0)), (1, .int a1), (2, .int a2), (3, .ref ao)]) hx hb dL_heard_17 hl (by decide) rfl (fun ls hl => ?_)
      refine lv_iconst (v := 2) hx hb dL_heard_19 (by decide) ?_
      exact e_L C0 (lF_2 hne (by rw [hx2]; decide)) hP hS rfl rfl dL_heard_20
  · refine lv_i2l hx hb dL_heard_8 rfl ?_
    refine va_last (D := (dC, dI)) (tys := tYS cI cB cO cL) hx hb hK hP (gD_va hD rfl) hS 10 3 rfl rfl (vp_in_n (i := 0) (by omega) (by omega)) dL_heard_9 (fun H locs hP hD hS => ?_)
    refine lv_goto (tgt := 21) hx hb dL_heard_10 (by decide) ?_
    refine lv_iconst (v := 0) hx hb dL_heard_21 (by decide) ?_
    exact e_L C0 (lF_0 h0) hP hS rfl rfl dL_heard_22
abbrev rL_arrivals : Room := { frames := 9, cells := 4, slots := 24, locals := 155 }
set_option maxHeartbeats 4000000 in
set_option maxRecDepth 100000 in
theorem mL_arrivals (l : Launch) (hfl : l.stackTraces = false) (dC : Nat → ClassId) (dI : Nat → Nat → Nat) (cI cB cO cL : ClassId) (N0 : Nat) (sT eA : Nat → Nat) (qr : Nat → Nat) (qb : Nat → Nat) (qk : Nat → Nat) (qe : Nat → Nat) (qs : Nat → Nat) (qu : Nat → Nat) (qx : Nat → Nat) (qd : Nat → Nat) (tr : TS) (b : BS) (kk : Int32) (a1 : Int32) (a2 : Int32) (a3 : Int32) (ao : Nat) (o : Nat → Int64) (sz : Nat) (hsz : N0 ≤ sz) (hDa : gD (fun _ => True) (aAd qr ++ bAd qb ++ kAd qk ++ [ao])) (hNa : ∀ a ∈ (aAd qr ++ bAd qb ++ kAd qk ++ [ao] : List Nat), N0 ≤ a) (hok : kX11_arrivals tr b kk a1 a2 a3) (hc : (pX11_arrivals tr b kk a1 a2 a3).1 = 0 ∨ (pX11_arrivals tr b kk a1 a2 a3).1 = 1 ∨ (pX11_arrivals tr b kk a1 a2 a3).1 = 2) : Met l yL_arrivals wsM_arrivals rL_arrivals (lP N0 sz sT eA (dC, dI) (tYS cI cB cO cL) (aw qr cI tr ++ bw qb cI b ++ kw qk qb qr qe qs qu qx qd cI kk ++ lo cL ao o) [.ref (qk 0), .int a1, .int a2, .int a3, .ref ao]) (lQ (dC, dI) (fun z9 : TS × BS × Int32 => aw qr cI z9.1 ++ bw qb cI z9.2.1 ++ kw qk qb qr qe qs qu qx qd cI z9.2.2) cL ao (va_A (aw qr cI tr ++ bw qb cI b ++ kw qk qb qr qe qs qu qx qd cI kk ++ lo cL ao o) sz) 1 (pX11_arrivals tr b kk a1 a2 a3) o) 4 24 (va_A (aw qr cI tr ++ bw qb cI b ++ kw qk qb qr qe qs qu qx qd cI kk ++ lo cL ao o) sz) := by
  refine lMet (cc := cL_arrivals) (maxL := 6) (ret := some .int) (hh := [(0, 12, 15, 23), (0, 12, 19, 13)]) [(0, .ref (qk 0)), (1, .int a1), (2, .int a2), (3, .int a3), (4, .ref ao)] (by decide) rfl rfl rfl ?_
  intro p e s mi below meth c C0 htab hz hK hF hC hP ls hl
  obtain ⟨hx, hb, hr, hml, hown, hts, hlocks⟩ := id C0
  have hown : s.vm.findClass RL = some mi.cls := hown
  have htab : c.exceptionTable.toList = [⟨0, 12, 15, 23⟩, ⟨0, 12, 19, 13⟩] := htab
  subst hz
  have hA : ∀ q : Nat, s.heap.size ≤ q → (va_A (aw qr cI tr ++ bw qb cI b ++ kw qk qb qr qe qs qu qx qd cI kk ++ lo cL ao o) s.heap.size) q := fun q h => Or.inr h
  have hN : ∀ q : Nat, (va_A (aw qr cI tr ++ bw qb cI b ++ kw qk qb qr qe qs qu qx qd cI kk ++ lo cL ao o) s.heap.size) q → N0 ≤ q := vA_N (ws := aw qr cI tr ++ bw qb cI b ++ kw qk qb qr qe qs qu qx qd cI kk ++ lo cL ao o) hNa hsz
  have hD : gD (va_A (aw qr cI tr ++ bw qb cI b ++ kw qk qb qr qe qs qu qx qd cI kk ++ lo cL ao o) s.heap.size) (aAd qr ++ bAd qb ++ kAd qk ++ [ao]) := gD_vA (ws := aw qr cI tr ++ bw qb cI b ++ kw qk qb qr qe qs qu qx qd cI kk ++ lo cL ao o) hDa
  have hS : va_S (va_A (aw qr cI tr ++ bw qb cI b ++ kw qk qb qr qe qs qu qx qd cI kk ++ lo cL ao o) s.heap.size) s.heap s.heap [] := va_S.rf
  have hPc : va_P (dC, dI) vwCl (aw qr cI tr ++ bw qb cI b ++ kw qk qb qr qe qs qu qx qd cI kk) s.heap := va_P_pre hP
  refine lv_aload hx hb dL_arrivals_0 (lv_at hl 4 rfl) ?_
  refine lv_iconst (v := 0) hx hb dL_arrivals_2 (by decide) ?_
  refine lv_aload_n hx hb dL_arrivals_3 rfl (lv_at hl 0 rfl) ?_
  refine lv_iload_n hx hb dL_arrivals_4 rfl (lv_at hl 1 rfl) ?_
  refine lv_iload_n hx hb dL_arrivals_5 rfl (lv_at hl 2 rfl) ?_
  refine lv_iload_n hx hb dL_arrivals_6 rfl (lv_at hl 3 rfl) ?_
  refine l_call (w0 := aw qr cI tr ++ bw qb cI b ++ kw qk qb qr qe qs qu qx qd cI kk) (wo := lo cL ao o) (vx_runV (As := [.int a1, .int a2, .int a3]) (rest := [.int 0, .ref ao]) ⟨hx, hb, hml, hown, hts⟩ (mX11_arrivals l hfl dC dI cI cB cO cL N0 sT eA qr qb qk qe qs qu qx qd tr b kk a1 a2 a3 s.heap.size hsz (gD_pre hDa) (fun a h => hNa a (List.mem_append_left _ h)) hok) (cwV 3 hts gM_arrivals rfl rfl rfl (by decide +kernel) ⟨Nat.le_of_ble_eq_true rfl, Nat.le_of_ble_eq_true rfl⟩) ⟨zP_blind, va_recv hK hPc (ci := 8) (q0 := 12) rfl rfl, zP_ok hPc hK hF hS hN⟩ rfl rfl hl.1 rfl (lv_room (Nat.le_of_ble_eq_true rfl)) dL_arrivals_7 ⟨Nat.le_of_ble_eq_true rfl, Nat.le_of_ble_eq_true rfl⟩) hP (gD_va hD rfl) hS hA (fun hne q9 ce H locs hP hS hce hcv hcl => ?_) (fun h0 H locs hP hS => ?_)
  · rcases hc.resolve_left hne with hx1 | hx2
    · have hcl : s.vm.findClass "java/lang/IndexOutOfBoundsException" = some ce.cls := (congrArg (fun z => s.vm.findClass (xN z)) hx1).symm.trans hcl
      refine vx_catch (E := "java/lang/IndexOutOfBoundsException") (name := "java/lang/IndexOutOfBoundsException") hown [] ⟨0, 12, 15, 23⟩ [⟨0, 12, 19, 13⟩] htab (fun z hz => absurd hz List.not_mem_nil) rfl (by decide) (hts (.classLink RL 23 "java/lang/IndexOutOfBoundsException") (by decide +kernel)) (hF.2.1.cas _ cas1) hce hcv hcl ?_
      refine lv_astore (lv' := [(5, .ref q9), (0, .ref (qk 0)), (1, .int a1), (2, .int a2), (3, .int a3), (4, .ref ao)]) hx hb dL_arrivals_15 hl (by decide) rfl (fun ls hl => ?_)
      refine lv_iconst (v := 1) hx hb dL_arrivals_17 (by decide) ?_
      exact e_L C0 (lF_1 hne hx1) hP hS rfl rfl dL_arrivals_18
    · have hcl : s.vm.findClass "java/lang/IllegalArgumentException" = some ce.cls := (congrArg (fun z => s.vm.findClass (xN z)) hx2).symm.trans hcl
      refine vx_catch (E := "java/lang/IllegalArgumentException") (name := "java/lang/IllegalArgumentException") hown [⟨0, 12, 15, 23⟩] ⟨0, 12, 19, 13⟩ [] htab (fun z hz => Or.inr (by rw [List.mem_singleton.mp hz]; exact ⟨by decide, "java/lang/IndexOutOfBoundsException", hts (.classLink RL 23 "java/lang/IndexOutOfBoundsException") (by decide +kernel), hC.2.2.2.2.1⟩)) rfl (by decide) (hts (.classLink RL 13 "java/lang/IllegalArgumentException") (by decide +kernel)) (hF.2.1.cas _ cas2) hce hcv hcl ?_
      refine lv_astore (lv' := [(5, .ref q9), (0, .ref (qk 0)), (1, .int a1), (2, .int a2), (3, .int a3), (4, .ref ao)]) hx hb dL_arrivals_19 hl (by decide) rfl (fun ls hl => ?_)
      refine lv_iconst (v := 2) hx hb dL_arrivals_21 (by decide) ?_
      exact e_L C0 (lF_2 hne (by rw [hx2]; decide)) hP hS rfl rfl dL_arrivals_22
  · refine lv_i2l hx hb dL_arrivals_10 rfl ?_
    refine va_last (D := (dC, dI)) (tys := tYS cI cB cO cL) hx hb hK hP (gD_va hD rfl) hS 13 3 rfl rfl (vp_in_n (i := 0) (by omega) (by omega)) dL_arrivals_11 (fun H locs hP hD hS => ?_)
    refine lv_goto (tgt := 23) hx hb dL_arrivals_12 (by decide) ?_
    refine lv_iconst (v := 0) hx hb dL_arrivals_23 (by decide) ?_
    exact e_L C0 (lF_0 h0) hP hS rfl rfl dL_arrivals_24
abbrev rL_arrival : Room := { frames := 9, cells := 4, slots := 24, locals := 157 }
set_option maxHeartbeats 4000000 in
set_option maxRecDepth 100000 in
theorem mL_arrival (l : Launch) (hfl : l.stackTraces = false) (dC : Nat → ClassId) (dI : Nat → Nat → Nat) (cI cB cO cL : ClassId) (N0 : Nat) (sT eA : Nat → Nat) (qr : Nat → Nat) (qb : Nat → Nat) (qk : Nat → Nat) (qe : Nat → Nat) (qs : Nat → Nat) (qu : Nat → Nat) (qx : Nat → Nat) (qd : Nat → Nat) (tr : TS) (b : BS) (kk : Int32) (a1 : Int32) (a2 : Int32) (a3 : Int32) (a4 : Int32) (a5 : Int32) (ao : Nat) (o : Nat → Int64) (sz : Nat) (hsz : N0 ≤ sz) (hDa : gD (fun _ => True) (aAd qr ++ bAd qb ++ kAd qk ++ [ao])) (hNa : ∀ a ∈ (aAd qr ++ bAd qb ++ kAd qk ++ [ao] : List Nat), N0 ≤ a) (hok : kX11_arrival tr b kk a1 a2 a3 a4 a5) (hc : (pX11_arrival tr b kk a1 a2 a3 a4 a5).1 = 0 ∨ (pX11_arrival tr b kk a1 a2 a3 a4 a5).1 = 1 ∨ (pX11_arrival tr b kk a1 a2 a3 a4 a5).1 = 2) : Met l yL_arrival wsM_arrival rL_arrival (lP N0 sz sT eA (dC, dI) (tYS cI cB cO cL) (aw qr cI tr ++ bw qb cI b ++ kw qk qb qr qe qs qu qx qd cI kk ++ lo cL ao o) [.ref (qk 0), .int a1, .int a2, .int a3, .int a4, .int a5, .ref ao]) (lQ (dC, dI) (fun z9 : TS × BS × Int32 => aw qr cI z9.1 ++ bw qb cI z9.2.1 ++ kw qk qb qr qe qs qu qx qd cI z9.2.2) cL ao (va_A (aw qr cI tr ++ bw qb cI b ++ kw qk qb qr qe qs qu qx qd cI kk ++ lo cL ao o) sz) 1 (pX11_arrival tr b kk a1 a2 a3 a4 a5) o) 4 24 (va_A (aw qr cI tr ++ bw qb cI b ++ kw qk qb qr qe qs qu qx qd cI kk ++ lo cL ao o) sz) := by
  refine lMet (cc := cL_arrival) (maxL := 8) (ret := some .int) (hh := [(0, 16, 19, 23), (0, 16, 23, 13)]) [(0, .ref (qk 0)), (1, .int a1), (2, .int a2), (3, .int a3), (4, .int a4), (5, .int a5), (6, .ref ao)] (by decide) rfl rfl rfl ?_
  intro p e s mi below meth c C0 htab hz hK hF hC hP ls hl
  obtain ⟨hx, hb, hr, hml, hown, hts, hlocks⟩ := id C0
  have hown : s.vm.findClass RL = some mi.cls := hown
  have htab : c.exceptionTable.toList = [⟨0, 16, 19, 23⟩, ⟨0, 16, 23, 13⟩] := htab
  subst hz
  have hA : ∀ q : Nat, s.heap.size ≤ q → (va_A (aw qr cI tr ++ bw qb cI b ++ kw qk qb qr qe qs qu qx qd cI kk ++ lo cL ao o) s.heap.size) q := fun q h => Or.inr h
  have hN : ∀ q : Nat, (va_A (aw qr cI tr ++ bw qb cI b ++ kw qk qb qr qe qs qu qx qd cI kk ++ lo cL ao o) s.heap.size) q → N0 ≤ q := vA_N (ws := aw qr cI tr ++ bw qb cI b ++ kw qk qb qr qe qs qu qx qd cI kk ++ lo cL ao o) hNa hsz
  have hD : gD (va_A (aw qr cI tr ++ bw qb cI b ++ kw qk qb qr qe qs qu qx qd cI kk ++ lo cL ao o) s.heap.size) (aAd qr ++ bAd qb ++ kAd qk ++ [ao]) := gD_vA (ws := aw qr cI tr ++ bw qb cI b ++ kw qk qb qr qe qs qu qx qd cI kk ++ lo cL ao o) hDa
  have hS : va_S (va_A (aw qr cI tr ++ bw qb cI b ++ kw qk qb qr qe qs qu qx qd cI kk ++ lo cL ao o) s.heap.size) s.heap s.heap [] := va_S.rf
  have hPc : va_P (dC, dI) vwCl (aw qr cI tr ++ bw qb cI b ++ kw qk qb qr qe qs qu qx qd cI kk) s.heap := va_P_pre hP
  refine lv_aload hx hb dL_arrival_0 (lv_at hl 6 rfl) ?_
  refine lv_iconst (v := 0) hx hb dL_arrival_2 (by decide) ?_
  refine lv_aload_n hx hb dL_arrival_3 rfl (lv_at hl 0 rfl) ?_
  refine lv_iload_n hx hb dL_arrival_4 rfl (lv_at hl 1 rfl) ?_
  refine lv_iload_n hx hb dL_arrival_5 rfl (lv_at hl 2 rfl) ?_
  refine lv_iload_n hx hb dL_arrival_6 rfl (lv_at hl 3 rfl) ?_
  refine lv_iload hx hb dL_arrival_7 (lv_at hl 4 rfl) ?_
  refine lv_iload hx hb dL_arrival_9 (lv_at hl 5 rfl) ?_
  refine l_call (w0 := aw qr cI tr ++ bw qb cI b ++ kw qk qb qr qe qs qu qx qd cI kk) (wo := lo cL ao o) (vx_runV (As := [.int a1, .int a2, .int a3, .int a4, .int a5]) (rest := [.int 0, .ref ao]) ⟨hx, hb, hml, hown, hts⟩ (mX11_arrival l hfl dC dI cI cB cO cL N0 sT eA qr qb qk qe qs qu qx qd tr b kk a1 a2 a3 a4 a5 s.heap.size hsz (gD_pre hDa) (fun a h => hNa a (List.mem_append_left _ h)) hok) (cwV 5 hts gM_arrival rfl rfl rfl (by decide +kernel) ⟨Nat.le_of_ble_eq_true rfl, Nat.le_of_ble_eq_true rfl⟩) ⟨zP_blind, va_recv hK hPc (ci := 8) (q0 := 12) rfl rfl, zP_ok hPc hK hF hS hN⟩ rfl rfl hl.1 rfl (lv_room (Nat.le_of_ble_eq_true rfl)) dL_arrival_11 ⟨Nat.le_of_ble_eq_true rfl, Nat.le_of_ble_eq_true rfl⟩) hP (gD_va hD rfl) hS hA (fun hne q9 ce H locs hP hS hce hcv hcl => ?_) (fun h0 H locs hP hS => ?_)
  · rcases hc.resolve_left hne with hx1 | hx2
    · have hcl : s.vm.findClass "java/lang/IndexOutOfBoundsException" = some ce.cls := (congrArg (fun z => s.vm.findClass (xN z)) hx1).symm.trans hcl
      refine vx_catch (E := "java/lang/IndexOutOfBoundsException") (name := "java/lang/IndexOutOfBoundsException") hown [] ⟨0, 16, 19, 23⟩ [⟨0, 16, 23, 13⟩] htab (fun z hz => absurd hz List.not_mem_nil) rfl (by decide) (hts (.classLink RL 23 "java/lang/IndexOutOfBoundsException") (by decide +kernel)) (hF.2.1.cas _ cas1) hce hcv hcl ?_
      refine lv_astore (lv' := [(7, .ref q9), (0, .ref (qk 0)), (1, .int a1), (2, .int a2), (3, .int a3), (4, .int a4), (5, .int a5), (6, .ref ao)]) hx hb dL_arrival_19 hl (by decide) rfl (fun ls hl => ?_)
      refine lv_iconst (v := 1) hx hb dL_arrival_21 (by decide) ?_
      exact e_L C0 (lF_1 hne hx1) hP hS rfl rfl dL_arrival_22
    · have hcl : s.vm.findClass "java/lang/IllegalArgumentException" = some ce.cls := (congrArg (fun z => s.vm.findClass (xN z)) hx2).symm.trans hcl
      refine vx_catch (E := "java/lang/IllegalArgumentException") (name := "java/lang/IllegalArgumentException") hown [⟨0, 16, 19, 23⟩] ⟨0, 16, 23, 13⟩ [] htab (fun z hz => Or.inr (by rw [List.mem_singleton.mp hz]; exact ⟨by decide, "java/lang/IndexOutOfBoundsException", hts (.classLink RL 23 "java/lang/IndexOutOfBoundsException") (by decide +kernel), hC.2.2.2.2.1⟩)) rfl (by decide) (hts (.classLink RL 13 "java/lang/IllegalArgumentException") (by decide +kernel)) (hF.2.1.cas _ cas2) hce hcv hcl ?_
      refine lv_astore (lv' := [(7, .ref q9), (0, .ref (qk 0)), (1, .int a1), (2, .int a2), (3, .int a3), (4, .int a4), (5, .int a5), (6, .ref ao)]) hx hb dL_arrival_23 hl (by decide) rfl (fun ls hl => ?_)
      refine lv_iconst (v := 2) hx hb dL_arrival_25 (by decide) ?_
      exact e_L C0 (lF_2 hne (by rw [hx2]; decide)) hP hS rfl rfl dL_arrival_26
  · refine lv_i2l hx hb dL_arrival_14 rfl ?_
    refine va_last (D := (dC, dI)) (tys := tYS cI cB cO cL) hx hb hK hP (gD_va hD rfl) hS 13 3 rfl rfl (vp_in_n (i := 0) (by omega) (by omega)) dL_arrival_15 (fun H locs hP hD hS => ?_)
    refine lv_goto (tgt := 27) hx hb dL_arrival_16 (by decide) ?_
    refine lv_iconst (v := 0) hx hb dL_arrival_27 (by decide) ?_
    exact e_L C0 (lF_0 h0) hP hS rfl rfl dL_arrival_28
abbrev rL_delay : Room := { frames := 9, cells := 4, slots := 24, locals := 154 }
set_option maxHeartbeats 4000000 in
set_option maxRecDepth 100000 in
theorem mL_delay (l : Launch) (hfl : l.stackTraces = false) (dC : Nat → ClassId) (dI : Nat → Nat → Nat) (cI cB cO cL : ClassId) (N0 : Nat) (sT eA : Nat → Nat) (qb : Nat → Nat) (qk : Nat → Nat) (qr : Nat → Nat) (qe : Nat → Nat) (qs : Nat → Nat) (qu : Nat → Nat) (qx : Nat → Nat) (qd : Nat → Nat) (b : BS) (kk : Int32) (a1 : Int32) (a2 : Int32) (ao : Nat) (o : Nat → Int64) (sz : Nat) (hsz : N0 ≤ sz) (hDa : gD (fun _ => True) (bAd qb ++ kAd qk ++ [ao])) (hNa : ∀ a ∈ (bAd qb ++ kAd qk ++ [ao] : List Nat), N0 ≤ a) (hok : kX11_delay b kk a1 a2) (hc : (pX11_delay b kk a1 a2).1 = 0 ∨ (pX11_delay b kk a1 a2).1 = 1 ∨ (pX11_delay b kk a1 a2).1 = 2) : Met l yL_delay wsM_delay rL_delay (lP N0 sz sT eA (dC, dI) (tYS cI cB cO cL) (bw qb cI b ++ kw qk qb qr qe qs qu qx qd cI kk ++ lo cL ao o) [.ref (qk 0), .int a1, .int a2, .ref ao]) (lQ (dC, dI) (fun z9 : BS × Int32 => bw qb cI z9.1 ++ kw qk qb qr qe qs qu qx qd cI z9.2) cL ao (va_A (bw qb cI b ++ kw qk qb qr qe qs qu qx qd cI kk ++ lo cL ao o) sz) 1 (pX11_delay b kk a1 a2) o) 4 24 (va_A (bw qb cI b ++ kw qk qb qr qe qs qu qx qd cI kk ++ lo cL ao o) sz) := by
  refine lMet (cc := cL_delay) (maxL := 5) (ret := some .int) (hh := [(0, 10, 13, 23), (0, 10, 17, 13)]) [(0, .ref (qk 0)), (1, .int a1), (2, .int a2), (3, .ref ao)] (by decide) rfl rfl rfl ?_
  intro p e s mi below meth c C0 htab hz hK hF hC hP ls hl
  obtain ⟨hx, hb, hr, hml, hown, hts, hlocks⟩ := id C0
  have hown : s.vm.findClass RL = some mi.cls := hown
  have htab : c.exceptionTable.toList = [⟨0, 10, 13, 23⟩, ⟨0, 10, 17, 13⟩] := htab
  subst hz
  have hA : ∀ q : Nat, s.heap.size ≤ q → (va_A (bw qb cI b ++ kw qk qb qr qe qs qu qx qd cI kk ++ lo cL ao o) s.heap.size) q := fun q h => Or.inr h
  have hN : ∀ q : Nat, (va_A (bw qb cI b ++ kw qk qb qr qe qs qu qx qd cI kk ++ lo cL ao o) s.heap.size) q → N0 ≤ q := vA_N (ws := bw qb cI b ++ kw qk qb qr qe qs qu qx qd cI kk ++ lo cL ao o) hNa hsz
  have hD : gD (va_A (bw qb cI b ++ kw qk qb qr qe qs qu qx qd cI kk ++ lo cL ao o) s.heap.size) (bAd qb ++ kAd qk ++ [ao]) := gD_vA (ws := bw qb cI b ++ kw qk qb qr qe qs qu qx qd cI kk ++ lo cL ao o) hDa
  have hS : va_S (va_A (bw qb cI b ++ kw qk qb qr qe qs qu qx qd cI kk ++ lo cL ao o) s.heap.size) s.heap s.heap [] := va_S.rf
  have hPc : va_P (dC, dI) vwCl (bw qb cI b ++ kw qk qb qr qe qs qu qx qd cI kk) s.heap := va_P_pre hP
  refine lv_aload_n hx hb dL_delay_0 rfl (lv_at hl 3 rfl) ?_
  refine lv_iconst (v := 0) hx hb dL_delay_1 (by decide) ?_
  refine lv_aload_n hx hb dL_delay_2 rfl (lv_at hl 0 rfl) ?_
  refine lv_iload_n hx hb dL_delay_3 rfl (lv_at hl 1 rfl) ?_
  refine lv_iload_n hx hb dL_delay_4 rfl (lv_at hl 2 rfl) ?_
  refine l_call (w0 := bw qb cI b ++ kw qk qb qr qe qs qu qx qd cI kk) (wo := lo cL ao o) (vx_runV (As := [.int a1, .int a2]) (rest := [.int 0, .ref ao]) ⟨hx, hb, hml, hown, hts⟩ (mX11_delay l hfl dC dI cI cB cO cL N0 sT eA qb qk qr qe qs qu qx qd b kk a1 a2 s.heap.size hsz (gD_pre hDa) (fun a h => hNa a (List.mem_append_left _ h)) hok) (cwV 2 hts gM_delay rfl rfl rfl (by decide +kernel) ⟨Nat.le_of_ble_eq_true rfl, Nat.le_of_ble_eq_true rfl⟩) ⟨zP_blind, va_recv hK hPc (ci := 8) (q0 := 9) rfl rfl, zP_ok hPc hK hF hS hN⟩ rfl rfl hl.1 rfl (lv_room (Nat.le_of_ble_eq_true rfl)) dL_delay_5 ⟨Nat.le_of_ble_eq_true rfl, Nat.le_of_ble_eq_true rfl⟩) hP (gD_va hD rfl) hS hA (fun hne q9 ce H locs hP hS hce hcv hcl => ?_) (fun h0 H locs hP hS => ?_)
  · rcases hc.resolve_left hne with hx1 | hx2
    · have hcl : s.vm.findClass "java/lang/IndexOutOfBoundsException" = some ce.cls := (congrArg (fun z => s.vm.findClass (xN z)) hx1).symm.trans hcl
      refine vx_catch (E := "java/lang/IndexOutOfBoundsException") (name := "java/lang/IndexOutOfBoundsException") hown [] ⟨0, 10, 13, 23⟩ [⟨0, 10, 17, 13⟩] htab (fun z hz => absurd hz List.not_mem_nil) rfl (by decide) (hts (.classLink RL 23 "java/lang/IndexOutOfBoundsException") (by decide +kernel)) (hF.2.1.cas _ cas1) hce hcv hcl ?_
      refine lv_astore (lv' := [(4, .ref q9), (0, .ref (qk 0)), (1, .int a1), (2, .int a2), (3, .ref ao)]) hx hb dL_delay_13 hl (by decide) rfl (fun ls hl => ?_)
      refine lv_iconst (v := 1) hx hb dL_delay_15 (by decide) ?_
      exact e_L C0 (lF_1 hne hx1) hP hS rfl rfl dL_delay_16
    · have hcl : s.vm.findClass "java/lang/IllegalArgumentException" = some ce.cls := (congrArg (fun z => s.vm.findClass (xN z)) hx2).symm.trans hcl
      refine vx_catch (E := "java/lang/IllegalArgumentException") (name := "java/lang/IllegalArgumentException") hown [⟨0, 10, 13, 23⟩] ⟨0, 10, 17, 13⟩ [] htab (fun z hz => Or.inr (by rw [List.mem_singleton.mp hz]; exact ⟨by decide, "java/lang/IndexOutOfBoundsException", hts (.classLink RL 23 "java/lang/IndexOutOfBoundsException") (by decide +kernel), hC.2.2.2.2.1⟩)) rfl (by decide) (hts (.classLink RL 13 "java/lang/IllegalArgumentException") (by decide +kernel)) (hF.2.1.cas _ cas2) hce hcv hcl ?_
      refine lv_astore (lv' := [(4, .ref q9), (0, .ref (qk 0)), (1, .int a1), (2, .int a2), (3, .ref ao)]) hx hb dL_delay_17 hl (by decide) rfl (fun ls hl => ?_)
      refine lv_iconst (v := 2) hx hb dL_delay_19 (by decide) ?_
      exact e_L C0 (lF_2 hne (by rw [hx2]; decide)) hP hS rfl rfl dL_delay_20
  · refine lv_i2l hx hb dL_delay_8 rfl ?_
    refine va_last (D := (dC, dI)) (tys := tYS cI cB cO cL) hx hb hK hP (gD_va hD rfl) hS 10 3 rfl rfl (vp_in_n (i := 0) (by omega) (by omega)) dL_delay_9 (fun H locs hP hD hS => ?_)
    refine lv_goto (tgt := 21) hx hb dL_delay_10 (by decide) ?_
    refine lv_iconst (v := 0) hx hb dL_delay_21 (by decide) ?_
    exact e_L C0 (lF_0 h0) hP hS rfl rfl dL_delay_22
abbrev rL_expected : Room := { frames := 9, cells := 4, slots := 24, locals := 155 }
set_option maxHeartbeats 4000000 in
set_option maxRecDepth 100000 in
theorem mL_expected (l : Launch) (hfl : l.stackTraces = false) (dC : Nat → ClassId) (dI : Nat → Nat → Nat) (cI cB cO cL : ClassId) (N0 : Nat) (sT eA : Nat → Nat) (qb : Nat → Nat) (qk : Nat → Nat) (qr : Nat → Nat) (qe : Nat → Nat) (qs : Nat → Nat) (qu : Nat → Nat) (qx : Nat → Nat) (qd : Nat → Nat) (b : BS) (kk : Int32) (a1 : Int32) (a2 : Int32) (a3 : Int32) (ao : Nat) (o : Nat → Int64) (sz : Nat) (hsz : N0 ≤ sz) (hDa : gD (fun _ => True) (bAd qb ++ kAd qk ++ [ao])) (hNa : ∀ a ∈ (bAd qb ++ kAd qk ++ [ao] : List Nat), N0 ≤ a) (hok : kX11_expected b kk a1 a2 a3) (hc : (pX11_expected b kk a1 a2 a3).1 = 0 ∨ (pX11_expected b kk a1 a2 a3).1 = 1 ∨ (pX11_expected b kk a1 a2 a3).1 = 2) : Met l yL_expected wsM_expected rL_expected (lP N0 sz sT eA (dC, dI) (tYS cI cB cO cL) (bw qb cI b ++ kw qk qb qr qe qs qu qx qd cI kk ++ lo cL ao o) [.ref (qk 0), .int a1, .int a2, .int a3, .ref ao]) (lQ (dC, dI) (fun z9 : BS × Int32 => bw qb cI z9.1 ++ kw qk qb qr qe qs qu qx qd cI z9.2) cL ao (va_A (bw qb cI b ++ kw qk qb qr qe qs qu qx qd cI kk ++ lo cL ao o) sz) 1 (pX11_expected b kk a1 a2 a3) o) 4 24 (va_A (bw qb cI b ++ kw qk qb qr qe qs qu qx qd cI kk ++ lo cL ao o) sz) := by
  refine lMet (cc := cL_expected) (maxL := 6) (ret := some .int) (hh := [(0, 12, 15, 23), (0, 12, 19, 13)]) [(0, .ref (qk 0)), (1, .int a1), (2, .int a2), (3, .int a3), (4, .ref ao)] (by decide) rfl rfl rfl ?_
  intro p e s mi below meth c C0 htab hz hK hF hC hP ls hl
  obtain ⟨hx, hb, hr, hml, hown, hts, hlocks⟩ := id C0
  have hown : s.vm.findClass RL = some mi.cls := hown
  have htab : c.exceptionTable.toList = [⟨0, 12, 15, 23⟩, ⟨0, 12, 19, 13⟩] := htab
  subst hz
  have hA : ∀ q : Nat, s.heap.size ≤ q → (va_A (bw qb cI b ++ kw qk qb qr qe qs qu qx qd cI kk ++ lo cL ao o) s.heap.size) q := fun q h => Or.inr h
  have hN : ∀ q : Nat, (va_A (bw qb cI b ++ kw qk qb qr qe qs qu qx qd cI kk ++ lo cL ao o) s.heap.size) q → N0 ≤ q := vA_N (ws := bw qb cI b ++ kw qk qb qr qe qs qu qx qd cI kk ++ lo cL ao o) hNa hsz
  have hD : gD (va_A (bw qb cI b ++ kw qk qb qr qe qs qu qx qd cI kk ++ lo cL ao o) s.heap.size) (bAd qb ++ kAd qk ++ [ao]) := gD_vA (ws := bw qb cI b ++ kw qk qb qr qe qs qu qx qd cI kk ++ lo cL ao o) hDa
  have hS : va_S (va_A (bw qb cI b ++ kw qk qb qr qe qs qu qx qd cI kk ++ lo cL ao o) s.heap.size) s.heap s.heap [] := va_S.rf
  have hPc : va_P (dC, dI) vwCl (bw qb cI b ++ kw qk qb qr qe qs qu qx qd cI kk) s.heap := va_P_pre hP
  refine lv_aload hx hb dL_expected_0 (lv_at hl 4 rfl) ?_
  refine lv_iconst (v := 0) hx hb dL_expected_2 (by decide) ?_
  refine lv_aload_n hx hb dL_expected_3 rfl (lv_at hl 0 rfl) ?_
  refine lv_iload_n hx hb dL_expected_4 rfl (lv_at hl 1 rfl) ?_
  refine lv_iload_n hx hb dL_expected_5 rfl (lv_at hl 2 rfl) ?_
  refine lv_iload_n hx hb dL_expected_6 rfl (lv_at hl 3 rfl) ?_
  refine l_call (w0 := bw qb cI b ++ kw qk qb qr qe qs qu qx qd cI kk) (wo := lo cL ao o) (vx_runV (As := [.int a1, .int a2, .int a3]) (rest := [.int 0, .ref ao]) ⟨hx, hb, hml, hown, hts⟩ (mX11_expected l hfl dC dI cI cB cO cL N0 sT eA qb qk qr qe qs qu qx qd b kk a1 a2 a3 s.heap.size hsz (gD_pre hDa) (fun a h => hNa a (List.mem_append_left _ h)) hok) (cwV 3 hts gM_expected rfl rfl rfl (by decide +kernel) ⟨Nat.le_of_ble_eq_true rfl, Nat.le_of_ble_eq_true rfl⟩) ⟨zP_blind, va_recv hK hPc (ci := 8) (q0 := 9) rfl rfl, zP_ok hPc hK hF hS hN⟩ rfl rfl hl.1 rfl (lv_room (Nat.le_of_ble_eq_true rfl)) dL_expected_7 ⟨Nat.le_of_ble_eq_true rfl, Nat.le_of_ble_eq_true rfl⟩) hP (gD_va hD rfl) hS hA (fun hne q9 ce H locs hP hS hce hcv hcl => ?_) (fun h0 H locs hP hS => ?_)
  · rcases hc.resolve_left hne with hx1 | hx2
    · have hcl : s.vm.findClass "java/lang/IndexOutOfBoundsException" = some ce.cls := (congrArg (fun z => s.vm.findClass (xN z)) hx1).symm.trans hcl
      refine vx_catch (E := "java/lang/IndexOutOfBoundsException") (name := "java/lang/IndexOutOfBoundsException") hown [] ⟨0, 12, 15, 23⟩ [⟨0, 12, 19, 13⟩] htab (fun z hz => absurd hz List.not_mem_nil) rfl (by decide) (hts (.classLink RL 23 "java/lang/IndexOutOfBoundsException") (by decide +kernel)) (hF.2.1.cas _ cas1) hce hcv hcl ?_
      refine lv_astore (lv' := [(5, .ref q9), (0, .ref (qk 0)), (1, .int a1), (2, .int a2), (3, .int a3), (4, .ref ao)]) hx hb dL_expected_15 hl (by decide) rfl (fun ls hl => ?_)
      refine lv_iconst (v := 1) hx hb dL_expected_17 (by decide) ?_
      exact e_L C0 (lF_1 hne hx1) hP hS rfl rfl dL_expected_18
    · have hcl : s.vm.findClass "java/lang/IllegalArgumentException" = some ce.cls := (congrArg (fun z => s.vm.findClass (xN z)) hx2).symm.trans hcl
      refine vx_catch (E := "java/lang/IllegalArgumentException") (name := "java/lang/IllegalArgumentException") hown [⟨0, 12, 15, 23⟩] ⟨0, 12, 19, 13⟩ [] htab (fun z hz => Or.inr (by rw [List.mem_singleton.mp hz]; exact ⟨by decide, "java/lang/IndexOutOfBoundsException", hts (.classLink RL 23 "java/lang/IndexOutOfBoundsException") (by decide +kernel), hC.2.2.2.2.1⟩)) rfl (by decide) (hts (.classLink RL 13 "java/lang/IllegalArgumentException") (by decide +kernel)) (hF.2.1.cas _ cas2) hce hcv hcl ?_
      refine lv_astore (lv' := [(5, .ref q9), (0, .ref (qk 0)), (1, .int a1), (2, .int a2), (3, .int a3), (4, .ref ao)]) hx hb dL_expected_19 hl (by decide) rfl (fun ls hl => ?_)
      refine lv_iconst (v := 2) hx hb dL_expected_21 (by decide) ?_
      exact e_L C0 (lF_2 hne (by rw [hx2]; decide)) hP hS rfl rfl dL_expected_22
  · refine lv_i2l hx hb dL_expected_10 rfl ?_
    refine va_last (D := (dC, dI)) (tys := tYS cI cB cO cL) hx hb hK hP (gD_va hD rfl) hS 10 3 rfl rfl (vp_in_n (i := 0) (by omega) (by omega)) dL_expected_11 (fun H locs hP hD hS => ?_)
    refine lv_goto (tgt := 23) hx hb dL_expected_12 (by decide) ?_
    refine lv_iconst (v := 0) hx hb dL_expected_23 (by decide) ?_
    exact e_L C0 (lF_0 h0) hP hS rfl rfl dL_expected_24
end HLP1
