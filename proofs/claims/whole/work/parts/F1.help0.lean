/-! THE LAW: its helpers (0) -/
section HLP0
abbrev rL_begin : Room := { frames := 8, cells := 4, slots := 24, locals := 146 }
set_option maxHeartbeats 4000000 in
set_option maxRecDepth 100000 in
theorem mL_begin (l : Launch) (hfl : l.stackTraces = false) (dC : Nat → ClassId) (dI : Nat → Nat → Nat) (cI cB cO cL : ClassId) (N0 : Nat) (sT eA : Nat → Nat) (qb : Nat → Nat) (qs : Nat → Nat) (qu : Nat → Nat) (qk : Nat → Nat) (qr : Nat → Nat) (qe : Nat → Nat) (qx : Nat → Nat) (qd : Nat → Nat) (b : BS) (s9 : SS) (u : US) (kk : Int32) (a1 : Int32) (a2 : Int32) (ao : Nat) (o : Nat → Int64) (sz : Nat) (hsz : N0 ≤ sz) (hDa : gD (fun _ => True) (bAd qb ++ sAd qs ++ uAd qu ++ kAd qk ++ [ao])) (hNa : ∀ a ∈ (bAd qb ++ sAd qs ++ uAd qu ++ kAd qk ++ [ao] : List Nat), N0 ≤ a) (hok : kX11_begin b s9 u kk a1 a2) (hc : (pX11_begin b s9 u kk a1 a2).1 = 0 ∨ (pX11_begin b s9 u kk a1 a2).1 = 2) : Met l yL_begin wsM_begin rL_begin (lP N0 sz sT eA (dC, dI) (tYS cI cB cO cL) (bw qb cI b ++ sw qs cI s9 ++ uw qu cI cB u ++ kw qk qb qr qe qs qu qx qd cI kk ++ lo cL ao o) [.ref (qk 0), .int a1, .int a2, .ref ao]) (lQ (dC, dI) (fun z9 : BS × SS × US × Int32 => bw qb cI z9.1 ++ sw qs cI z9.2.1 ++ uw qu cI cB z9.2.2.1 ++ kw qk qb qr qe qs qu qx qd cI z9.2.2.2) cL ao (va_A (bw qb cI b ++ sw qs cI s9 ++ uw qu cI cB u ++ kw qk qb qr qe qs qu qx qd cI kk ++ lo cL ao o) sz) 2 (pX11_begin b s9 u kk a1 a2) o) 4 24 (va_A (bw qb cI b ++ sw qs cI s9 ++ uw qu cI cB u ++ kw qk qb qr qe qs qu qx qd cI kk ++ lo cL ao o) sz) := by
  refine lMet (cc := cL_begin) (maxL := 5) (ret := some .int) (hh := [(0, 10, 13, 13)]) [(0, .ref (qk 0)), (1, .int a1), (2, .int a2), (3, .ref ao)] (by decide) rfl rfl rfl ?_
  intro p e s mi below meth c C0 htab hz hK hF hC hP ls hl
  obtain ⟨hx, hb, hr, hml, hown, hts, hlocks⟩ := id C0
  have hown : s.vm.findClass RL = some mi.cls := hown
  have htab : c.exceptionTable.toList = [⟨0, 10, 13, 13⟩] := htab
  subst hz
  have hA : ∀ q : Nat, s.heap.size ≤ q → (va_A (bw qb cI b ++ sw qs cI s9 ++ uw qu cI cB u ++ kw qk qb qr qe qs qu qx qd cI kk ++ lo cL ao o) s.heap.size) q := fun q h => Or.inr h
  have hN : ∀ q : Nat, (va_A (bw qb cI b ++ sw qs cI s9 ++ uw qu cI cB u ++ kw qk qb qr qe qs qu qx qd cI kk ++ lo cL ao o) s.heap.size) q → N0 ≤ q := vA_N (ws := bw qb cI b ++ sw qs cI s9 ++ uw qu cI cB u ++ kw qk qb qr qe qs qu qx qd cI kk ++ lo cL ao o) hNa hsz
  have hD : gD (va_A (bw qb cI b ++ sw qs cI s9 ++ uw qu cI cB u ++ kw qk qb qr qe qs qu qx qd cI kk ++ lo cL ao o) s.heap.size) (bAd qb ++ sAd qs ++ uAd qu ++ kAd qk ++ [ao]) := gD_vA (ws := bw qb cI b ++ sw qs cI s9 ++ uw qu cI cB u ++ kw qk qb qr qe qs qu qx qd cI kk ++ lo cL ao o) hDa
  have hS : va_S (va_A (bw qb cI b ++ sw qs cI s9 ++ uw qu cI cB u ++ kw qk qb qr qe qs qu qx qd cI kk ++ lo cL ao o) s.heap.size) s.heap s.heap [] := va_S.rf
  have hPc : va_P (dC, dI) vwCl (bw qb cI b ++ sw qs cI s9 ++ uw qu cI cB u ++ kw qk qb qr qe qs qu qx qd cI kk) s.heap := va_P_pre hP
  refine lv_aload_n hx hb dL_begin_0 rfl (lv_at hl 3 rfl) ?_
  refine lv_iconst (v := 0) hx hb dL_begin_1 (by decide) ?_
  refine lv_aload_n hx hb dL_begin_2 rfl (lv_at hl 0 rfl) ?_
  refine lv_iload_n hx hb dL_begin_3 rfl (lv_at hl 1 rfl) ?_
  refine lv_iload_n hx hb dL_begin_4 rfl (lv_at hl 2 rfl) ?_
  refine l_call (w0 := bw qb cI b ++ sw qs cI s9 ++ uw qu cI cB u ++ kw qk qb qr qe qs qu qx qd cI kk) (wo := lo cL ao o) (vx_runV (As := [.int a1, .int a2]) (rest := [.int 0, .ref ao]) ⟨hx, hb, hml, hown, hts⟩ (mX11_begin l hfl dC dI cI cB cO cL N0 sT eA qb qs qu qk qr qe qx qd b s9 u kk a1 a2 s.heap.size hsz (gD_pre hDa) (fun a h => hNa a (List.mem_append_left _ h)) hok) (cwV 2 hts gM_begin rfl rfl rfl (by decide +kernel) ⟨Nat.le_of_ble_eq_true rfl, Nat.le_of_ble_eq_true rfl⟩) ⟨zP_blind, va_recv hK hPc (ci := 8) (q0 := 52) rfl rfl, zP_ok hPc hK hF hS hN⟩ rfl rfl hl.1 rfl (lv_room (Nat.le_of_ble_eq_true rfl)) dL_begin_5 ⟨Nat.le_of_ble_eq_true rfl, Nat.le_of_ble_eq_true rfl⟩) hP (gD_va hD rfl) hS hA (fun hne q9 ce H locs hP hS hce hcv hcl => ?_) (fun h0 H locs hP hS => ?_)
  · have hx2 := hc.resolve_left hne
    have hcl : s.vm.findClass "java/lang/IllegalArgumentException" = some ce.cls := (congrArg (fun z => s.vm.findClass (xN z)) hx2).symm.trans hcl
    refine vx_catch (E := "java/lang/IllegalArgumentException") (name := "java/lang/IllegalArgumentException") hown [] ⟨0, 10, 13, 13⟩ [] htab (fun z hz => absurd hz List.not_mem_nil) rfl (by decide) (hts (.classLink RL 13 "java/lang/IllegalArgumentException") (by decide +kernel)) (hF.2.1.cas _ cas2) hce hcv hcl ?_
    refine lv_astore (lv' := [(4, .ref q9), (0, .ref (qk 0)), (1, .int a1), (2, .int a2), (3, .ref ao)]) hx hb dL_begin_13 hl (by decide) rfl (fun ls hl => ?_)
    refine lv_iconst (v := 1) hx hb dL_begin_15 (by decide) ?_
    exact e_L C0 (lF_1 hne hx2) hP hS rfl rfl dL_begin_16
  · refine lv_i2l hx hb dL_begin_8 rfl ?_
    refine va_last (D := (dC, dI)) (tys := tYS cI cB cO cL) hx hb hK hP (gD_va hD rfl) hS 53 3 rfl rfl (vp_in_n (i := 0) (by omega) (by omega)) dL_begin_9 (fun H locs hP hD hS => ?_)
    refine lv_goto (tgt := 17) hx hb dL_begin_10 (by decide) ?_
    refine lv_iconst (v := 0) hx hb dL_begin_17 (by decide) ?_
    exact e_L C0 (lF_0 h0) hP hS rfl rfl dL_begin_18
abbrev rL_addMicrophone : Room := { frames := 8, cells := 4, slots := 24, locals := 146 }
set_option maxHeartbeats 4000000 in
set_option maxRecDepth 100000 in
theorem mL_addMicrophone (l : Launch) (hfl : l.stackTraces = false) (dC : Nat → ClassId) (dI : Nat → Nat → Nat) (cI cB cO cL : ClassId) (N0 : Nat) (sT eA : Nat → Nat) (qb : Nat → Nat) (qs : Nat → Nat) (qu : Nat → Nat) (qk : Nat → Nat) (qr : Nat → Nat) (qe : Nat → Nat) (qx : Nat → Nat) (qd : Nat → Nat) (b : BS) (s9 : SS) (u : US) (kk : Int32) (a1 : Int32) (a2 : Int32) (ao : Nat) (o : Nat → Int64) (sz : Nat) (hsz : N0 ≤ sz) (hDa : gD (fun _ => True) (bAd qb ++ sAd qs ++ uAd qu ++ kAd qk ++ [ao])) (hNa : ∀ a ∈ (bAd qb ++ sAd qs ++ uAd qu ++ kAd qk ++ [ao] : List Nat), N0 ≤ a) (hok : kX11_addMicrophone b s9 u kk a1 a2) (hc : (pX11_addMicrophone b s9 u kk a1 a2).1 = 0 ∨ (pX11_addMicrophone b s9 u kk a1 a2).1 = 2 ∨ (pX11_addMicrophone b s9 u kk a1 a2).1 = 3) : Met l yL_addMicrophone wsM_addMicrophone rL_addMicrophone (lP N0 sz sT eA (dC, dI) (tYS cI cB cO cL) (bw qb cI b ++ sw qs cI s9 ++ uw qu cI cB u ++ kw qk qb qr qe qs qu qx qd cI kk ++ lo cL ao o) [.ref (qk 0), .int a1, .int a2, .ref ao]) (lQ (dC, dI) (fun z9 : BS × SS × US × Int32 => bw qb cI z9.1 ++ sw qs cI z9.2.1 ++ uw qu cI cB z9.2.2.1 ++ kw qk qb qr qe qs qu qx qd cI z9.2.2.2) cL ao (va_A (bw qb cI b ++ sw qs cI s9 ++ uw qu cI cB u ++ kw qk qb qr qe qs qu qx qd cI kk ++ lo cL ao o) sz) 2 (pX11_addMicrophone b s9 u kk a1 a2) o) 4 24 (va_A (bw qb cI b ++ sw qs cI s9 ++ uw qu cI cB u ++ kw qk qb qr qe qs qu qx qd cI kk ++ lo cL ao o) sz) := by
  refine lMet (cc := cL_addMicrophone) (maxL := 5) (ret := some .int) (hh := [(0, 10, 13, 13), (0, 10, 17, 18)]) [(0, .ref (qk 0)), (1, .int a1), (2, .int a2), (3, .ref ao)] (by decide) rfl rfl rfl ?_
  intro p e s mi below meth c C0 htab hz hK hF hC hP ls hl
  obtain ⟨hx, hb, hr, hml, hown, hts, hlocks⟩ := id C0
  have hown : s.vm.findClass RL = some mi.cls := hown
  have htab : c.exceptionTable.toList = [⟨0, 10, 13, 13⟩, ⟨0, 10, 17, 18⟩] := htab
  subst hz
  have hA : ∀ q : Nat, s.heap.size ≤ q → (va_A (bw qb cI b ++ sw qs cI s9 ++ uw qu cI cB u ++ kw qk qb qr qe qs qu qx qd cI kk ++ lo cL ao o) s.heap.size) q := fun q h => Or.inr h
  have hN : ∀ q : Nat, (va_A (bw qb cI b ++ sw qs cI s9 ++ uw qu cI cB u ++ kw qk qb qr qe qs qu qx qd cI kk ++ lo cL ao o) s.heap.size) q → N0 ≤ q := vA_N (ws := bw qb cI b ++ sw qs cI s9 ++ uw qu cI cB u ++ kw qk qb qr qe qs qu qx qd cI kk ++ lo cL ao o) hNa hsz
  have hD : gD (va_A (bw qb cI b ++ sw qs cI s9 ++ uw qu cI cB u ++ kw qk qb qr qe qs qu qx qd cI kk ++ lo cL ao o) s.heap.size) (bAd qb ++ sAd qs ++ uAd qu ++ kAd qk ++ [ao]) := gD_vA (ws := bw qb cI b ++ sw qs cI s9 ++ uw qu cI cB u ++ kw qk qb qr qe qs qu qx qd cI kk ++ lo cL ao o) hDa
  have hS : va_S (va_A (bw qb cI b ++ sw qs cI s9 ++ uw qu cI cB u ++ kw qk qb qr qe qs qu qx qd cI kk ++ lo cL ao o) s.heap.size) s.heap s.heap [] := va_S.rf
  have hPc : va_P (dC, dI) vwCl (bw qb cI b ++ sw qs cI s9 ++ uw qu cI cB u ++ kw qk qb qr qe qs qu qx qd cI kk) s.heap := va_P_pre hP
  refine lv_aload_n hx hb dL_addMicrophone_0 rfl (lv_at hl 3 rfl) ?_
  refine lv_iconst (v := 0) hx hb dL_addMicrophone_1 (by decide) ?_
  refine lv_aload_n hx hb dL_addMicrophone_2 rfl (lv_at hl 0 rfl) ?_
  refine lv_iload_n hx hb dL_addMicrophone_3 rfl (lv_at hl 1 rfl) ?_
  refine lv_iload_n hx hb dL_addMicrophone_4 rfl (lv_at hl 2 rfl) ?_
  refine l_call (w0 := bw qb cI b ++ sw qs cI s9 ++ uw qu cI cB u ++ kw qk qb qr qe qs qu qx qd cI kk) (wo := lo cL ao o) (vx_runV (As := [.int a1, .int a2]) (rest := [.int 0, .ref ao]) ⟨hx, hb, hml, hown, hts⟩ (mX11_addMicrophone l hfl dC dI cI cB cO cL N0 sT eA qb qs qu qk qr qe qx qd b s9 u kk a1 a2 s.heap.size hsz (gD_pre hDa) (fun a h => hNa a (List.mem_append_left _ h)) hok) (cwV 2 hts gM_addMicrophone rfl rfl rfl (by decide +kernel) ⟨Nat.le_of_ble_eq_true rfl, Nat.le_of_ble_eq_true rfl⟩) ⟨zP_blind, va_recv hK hPc (ci := 8) (q0 := 52) rfl rfl, zP_ok hPc hK hF hS hN⟩ rfl rfl hl.1 rfl (lv_room (Nat.le_of_ble_eq_true rfl)) dL_addMicrophone_5 ⟨Nat.le_of_ble_eq_true rfl, Nat.le_of_ble_eq_true rfl⟩) hP (gD_va hD rfl) hS hA (fun hne q9 ce H locs hP hS hce hcv hcl => ?_) (fun h0 H locs hP hS => ?_)
  · rcases hc.resolve_left hne with hx2 | hx3
    · have hcl : s.vm.findClass "java/lang/IllegalArgumentException" = some ce.cls := (congrArg (fun z => s.vm.findClass (xN z)) hx2).symm.trans hcl
      refine vx_catch (E := "java/lang/IllegalArgumentException") (name := "java/lang/IllegalArgumentException") hown [] ⟨0, 10, 13, 13⟩ [⟨0, 10, 17, 18⟩] htab (fun z hz => absurd hz List.not_mem_nil) rfl (by decide) (hts (.classLink RL 13 "java/lang/IllegalArgumentException") (by decide +kernel)) (hF.2.1.cas _ cas2) hce hcv hcl ?_
      refine lv_astore (lv' := [(4, .ref q9), (0, .ref (qk 0)), (1, .int a1), (2, .int a2), (3, .ref ao)]) hx hb dL_addMicrophone_13 hl (by decide) rfl (fun ls hl => ?_)
      refine lv_iconst (v := 1) hx hb dL_addMicrophone_15 (by decide) ?_
      exact e_L C0 (lF_1 hne hx2) hP hS rfl rfl dL_addMicrophone_16
    · have hcl : s.vm.findClass "java/lang/IllegalStateException" = some ce.cls := (congrArg (fun z => s.vm.findClass (xN z)) hx3).symm.trans hcl
      refine vx_catch (E := "java/lang/IllegalStateException") (name := "java/lang/IllegalStateException") hown [⟨0, 10, 13, 13⟩] ⟨0, 10, 17, 18⟩ [] htab (fun z hz => Or.inr (by rw [List.mem_singleton.mp hz]; exact ⟨by decide, "java/lang/IllegalArgumentException", hts (.classLink RL 13 "java/lang/IllegalArgumentException") (by decide +kernel), hC.2.1⟩)) rfl (by decide) (hts (.classLink RL 18 "java/lang/IllegalStateException") (by decide +kernel)) (hF.2.1.cas _ cas3) hce hcv hcl ?_
      refine lv_astore (lv' := [(4, .ref q9), (0, .ref (qk 0)), (1, .int a1), (2, .int a2), (3, .ref ao)]) hx hb dL_addMicrophone_17 hl (by decide) rfl (fun ls hl => ?_)
      refine lv_iconst (v := 2) hx hb dL_addMicrophone_19 (by decide) ?_
      exact e_L C0 (lF_2 hne (by rw [hx3]; decide)) hP hS rfl rfl dL_addMicrophone_20
  · refine lv_i2l hx hb dL_addMicrophone_8 rfl ?_
    refine va_last (D := (dC, dI)) (tys := tYS cI cB cO cL) hx hb hK hP (gD_va hD rfl) hS 53 3 rfl rfl (vp_in_n (i := 0) (by omega) (by omega)) dL_addMicrophone_9 (fun H locs hP hD hS => ?_)
    refine lv_goto (tgt := 21) hx hb dL_addMicrophone_10 (by decide) ?_
    refine lv_iconst (v := 0) hx hb dL_addMicrophone_21 (by decide) ?_
    exact e_L C0 (lF_0 h0) hP hS rfl rfl dL_addMicrophone_22
abbrev rL_setClock : Room := { frames := 9, cells := 4, slots := 24, locals := 155 }
set_option maxHeartbeats 4000000 in
set_option maxRecDepth 100000 in
theorem mL_setClock (l : Launch) (hfl : l.stackTraces = false) (dC : Nat → ClassId) (dI : Nat → Nat → Nat) (cI cB cO cL : ClassId) (N0 : Nat) (sT eA : Nat → Nat) (qb : Nat → Nat) (qs : Nat → Nat) (qu : Nat → Nat) (qk : Nat → Nat) (qr : Nat → Nat) (qe : Nat → Nat) (qx : Nat → Nat) (qd : Nat → Nat) (b : BS) (s9 : SS) (u : US) (kk : Int32) (a1 : Int32) (a2 : Int32) (ao : Nat) (o : Nat → Int64) (sz : Nat) (hsz : N0 ≤ sz) (hDa : gD (fun _ => True) (bAd qb ++ sAd qs ++ uAd qu ++ kAd qk ++ [ao])) (hNa : ∀ a ∈ (bAd qb ++ sAd qs ++ uAd qu ++ kAd qk ++ [ao] : List Nat), N0 ≤ a) (hok : kX11_setClock b s9 u kk a1 a2) (hc : (pX11_setClock b s9 u kk a1 a2).1 = 0 ∨ (pX11_setClock b s9 u kk a1 a2).1 = 1 ∨ (pX11_setClock b s9 u kk a1 a2).1 = 2) : Met l yL_setClock wsM_setClock rL_setClock (lP N0 sz sT eA (dC, dI) (tYS cI cB cO cL) (bw qb cI b ++ sw qs cI s9 ++ uw qu cI cB u ++ kw qk qb qr qe qs qu qx qd cI kk ++ lo cL ao o) [.ref (qk 0), .int a1, .int a2, .ref ao]) (lQ (dC, dI) (fun z9 : BS × SS × US × Int32 => bw qb cI z9.1 ++ sw qs cI z9.2.1 ++ uw qu cI cB z9.2.2.1 ++ kw qk qb qr qe qs qu qx qd cI z9.2.2.2) cL ao (va_A (bw qb cI b ++ sw qs cI s9 ++ uw qu cI cB u ++ kw qk qb qr qe qs qu qx qd cI kk ++ lo cL ao o) sz) 1 (pX11_setClock b s9 u kk a1 a2) o) 4 24 (va_A (bw qb cI b ++ sw qs cI s9 ++ uw qu cI cB u ++ kw qk qb qr qe qs qu qx qd cI kk ++ lo cL ao o) sz) := by
  refine lMet (cc := cL_setClock) (maxL := 5) (ret := some .int) (hh := [(0, 10, 13, 23), (0, 10, 17, 13)]) [(0, .ref (qk 0)), (1, .int a1), (2, .int a2), (3, .ref ao)] (by decide) rfl rfl rfl ?_
  intro p e s mi below meth c C0 htab hz hK hF hC hP ls hl
  obtain ⟨hx, hb, hr, hml, hown, hts, hlocks⟩ := id C0
  have hown : s.vm.findClass RL = some mi.cls := hown
  have htab : c.exceptionTable.toList = [⟨0, 10, 13, 23⟩, ⟨0, 10, 17, 13⟩] := htab
  subst hz
  have hA : ∀ q : Nat, s.heap.size ≤ q → (va_A (bw qb cI b ++ sw qs cI s9 ++ uw qu cI cB u ++ kw qk qb qr qe qs qu qx qd cI kk ++ lo cL ao o) s.heap.size) q := fun q h => Or.inr h
  have hN : ∀ q : Nat, (va_A (bw qb cI b ++ sw qs cI s9 ++ uw qu cI cB u ++ kw qk qb qr qe qs qu qx qd cI kk ++ lo cL ao o) s.heap.size) q → N0 ≤ q := vA_N (ws := bw qb cI b ++ sw qs cI s9 ++ uw qu cI cB u ++ kw qk qb qr qe qs qu qx qd cI kk ++ lo cL ao o) hNa hsz
  have hD : gD (va_A (bw qb cI b ++ sw qs cI s9 ++ uw qu cI cB u ++ kw qk qb qr qe qs qu qx qd cI kk ++ lo cL ao o) s.heap.size) (bAd qb ++ sAd qs ++ uAd qu ++ kAd qk ++ [ao]) := gD_vA (ws := bw qb cI b ++ sw qs cI s9 ++ uw qu cI cB u ++ kw qk qb qr qe qs qu qx qd cI kk ++ lo cL ao o) hDa
  have hS : va_S (va_A (bw qb cI b ++ sw qs cI s9 ++ uw qu cI cB u ++ kw qk qb qr qe qs qu qx qd cI kk ++ lo cL ao o) s.heap.size) s.heap s.heap [] := va_S.rf
  have hPc : va_P (dC, dI) vwCl (bw qb cI b ++ sw qs cI s9 ++ uw qu cI cB u ++ kw qk qb qr qe qs qu qx qd cI kk) s.heap := va_P_pre hP
  refine lv_aload_n hx hb dL_setClock_0 rfl (lv_at hl 3 rfl) ?_
  refine lv_iconst (v := 0) hx hb dL_setClock_1 (by decide) ?_
  refine lv_aload_n hx hb dL_setClock_2 rfl (lv_at hl 0 rfl) ?_
  refine lv_iload_n hx hb dL_setClock_3 rfl (lv_at hl 1 rfl) ?_
  refine lv_iload_n hx hb dL_setClock_4 rfl (lv_at hl 2 rfl) ?_
  refine l_call (w0 := bw qb cI b ++ sw qs cI s9 ++ uw qu cI cB u ++ kw qk qb qr qe qs qu qx qd cI kk) (wo := lo cL ao o) (vx_runV (As := [.int a1, .int a2]) (rest := [.int 0, .ref ao]) ⟨hx, hb, hml, hown, hts⟩ (mX11_setClock l hfl dC dI cI cB cO cL N0 sT eA qb qs qu qk qr qe qx qd b s9 u kk a1 a2 s.heap.size hsz (gD_pre hDa) (fun a h => hNa a (List.mem_append_left _ h)) hok) (cwV 2 hts gM_setClock rfl rfl rfl (by decide +kernel) ⟨Nat.le_of_ble_eq_true rfl, Nat.le_of_ble_eq_true rfl⟩) ⟨zP_blind, va_recv hK hPc (ci := 8) (q0 := 52) rfl rfl, zP_ok hPc hK hF hS hN⟩ rfl rfl hl.1 rfl (lv_room (Nat.le_of_ble_eq_true rfl)) dL_setClock_5 ⟨Nat.le_of_ble_eq_true rfl, Nat.le_of_ble_eq_true rfl⟩) hP (gD_va hD rfl) hS hA (fun hne q9 ce H locs hP hS hce hcv hcl => ?_) (fun h0 H locs hP hS => ?_)
  · rcases hc.resolve_left hne with hx1 | hx2
    · have hcl : s.vm.findClass "java/lang/IndexOutOfBoundsException" = some ce.cls := (congrArg (fun z => s.vm.findClass (xN z)) hx1).symm.trans hcl
      refine vx_catch (E := "java/lang/IndexOutOfBoundsException") (name := "java/lang/IndexOutOfBoundsException") hown [] ⟨0, 10, 13, 23⟩ [⟨0, 10, 17, 13⟩] htab (fun z hz => absurd hz List.not_mem_nil) rfl (by decide) (hts (.classLink RL 23 "java/lang/IndexOutOfBoundsException") (by decide +kernel)) (hF.2.1.cas _ cas1) hce hcv hcl ?_
      refine lv_astore (lv' := [(4, .ref q9), (0, .ref (qk 0)), (1, .int a1), (2, .int a2), (3, .ref ao)]) hx hb dL_setClock_13 hl (by decide) rfl (fun ls hl => ?_)
      refine lv_iconst (v := 1) hx hb dL_setClock_15 (by decide) ?_
      exact e_L C0 (lF_1 hne hx1) hP hS rfl rfl dL_setClock_16
    · have hcl : s.vm.findClass "java/lang/IllegalArgumentException" = some ce.cls := (congrArg (fun z => s.vm.findClass (xN z)) hx2).symm.trans hcl
      refine vx_catch (E := "java/lang/IllegalArgumentException") (name := "java/lang/IllegalArgumentException") hown [⟨0, 10, 13, 23⟩] ⟨0, 10, 17, 13⟩ [] htab (fun z hz => Or.inr (by rw [List.mem_singleton.mp hz]; exact ⟨by decide, "java/lang/IndexOutOfBoundsException", hts (.classLink RL 23 "java/lang/IndexOutOfBoundsException") (by decide +kernel), hC.2.2.2.2.1⟩)) rfl (by decide) (hts (.classLink RL 13 "java/lang/IllegalArgumentException") (by decide +kernel)) (hF.2.1.cas _ cas2) hce hcv hcl ?_
      refine lv_astore (lv' := [(4, .ref q9), (0, .ref (qk 0)), (1, .int a1), (2, .int a2), (3, .ref ao)]) hx hb dL_setClock_17 hl (by decide) rfl (fun ls hl => ?_)
      refine lv_iconst (v := 2) hx hb dL_setClock_19 (by decide) ?_
      exact e_L C0 (lF_2 hne (by rw [hx2]; decide)) hP hS rfl rfl dL_setClock_20
  · refine lv_i2l hx hb dL_setClock_8 rfl ?_
    refine va_last (D := (dC, dI)) (tys := tYS cI cB cO cL) hx hb hK hP (gD_va hD rfl) hS 53 3 rfl rfl (vp_in_n (i := 0) (by omega) (by omega)) dL_setClock_9 (fun H locs hP hD hS => ?_)
    refine lv_goto (tgt := 21) hx hb dL_setClock_10 (by decide) ?_
    refine lv_iconst (v := 0) hx hb dL_setClock_21 (by decide) ?_
    exact e_L C0 (lF_0 h0) hP hS rfl rfl dL_setClock_22
abbrev rL_addWall : Room := { frames := 8, cells := 4, slots := 24, locals := 147 }
set_option maxHeartbeats 4000000 in
set_option maxRecDepth 100000 in
theorem mL_addWall (l : Launch) (hfl : l.stackTraces = false) (dC : Nat → ClassId) (dI : Nat → Nat → Nat) (cI cB cO cL : ClassId) (N0 : Nat) (sT eA : Nat → Nat) (qb : Nat → Nat) (qs : Nat → Nat) (qu : Nat → Nat) (qk : Nat → Nat) (qr : Nat → Nat) (qe : Nat → Nat) (qx : Nat → Nat) (qd : Nat → Nat) (b : BS) (s9 : SS) (u : US) (kk : Int32) (a1 : Int32) (a2 : Int32) (a3 : Int32) (ao : Nat) (o : Nat → Int64) (sz : Nat) (hsz : N0 ≤ sz) (hDa : gD (fun _ => True) (bAd qb ++ sAd qs ++ uAd qu ++ kAd qk ++ [ao])) (hNa : ∀ a ∈ (bAd qb ++ sAd qs ++ uAd qu ++ kAd qk ++ [ao] : List Nat), N0 ≤ a) (hok : kX11_addWall b s9 u kk a1 a2 a3) (hc : (pX11_addWall b s9 u kk a1 a2 a3).1 = 0 ∨ (pX11_addWall b s9 u kk a1 a2 a3).1 = 2 ∨ (pX11_addWall b s9 u kk a1 a2 a3).1 = 3) : Met l yL_addWall wsM_addWall rL_addWall (lP N0 sz sT eA (dC, dI) (tYS cI cB cO cL) (bw qb cI b ++ sw qs cI s9 ++ uw qu cI cB u ++ kw qk qb qr qe qs qu qx qd cI kk ++ lo cL ao o) [.ref (qk 0), .int a1, .int a2, .int a3, .ref ao]) (lQ (dC, dI) (fun z9 : BS × SS × US × Int32 => bw qb cI z9.1 ++ sw qs cI z9.2.1 ++ uw qu cI cB z9.2.2.1 ++ kw qk qb qr qe qs qu qx qd cI z9.2.2.2) cL ao (va_A (bw qb cI b ++ sw qs cI s9 ++ uw qu cI cB u ++ kw qk qb qr qe qs qu qx qd cI kk ++ lo cL ao o) sz) 2 (pX11_addWall b s9 u kk a1 a2 a3) o) 4 24 (va_A (bw qb cI b ++ sw qs cI s9 ++ uw qu cI cB u ++ kw qk qb qr qe qs qu qx qd cI kk ++ lo cL ao o) sz) := by
  refine lMet (cc := cL_addWall) (maxL := 6) (ret := some .int) (hh := [(0, 12, 15, 13), (0, 12, 19, 18)]) [(0, .ref (qk 0)), (1, .int a1), (2, .int a2), (3, .int a3), (4, .ref ao)] (by decide) rfl rfl rfl ?_
  intro p e s mi below meth c C0 htab hz hK hF hC hP ls hl
  obtain ⟨hx, hb, hr, hml, hown, hts, hlocks⟩ := id C0
  have hown : s.vm.findClass RL = some mi.cls := hown
  have htab : c.exceptionTable.toList = [⟨0, 12, 15, 13⟩, ⟨0, 12, 19, 18⟩] := htab
  subst hz
  have hA : ∀ q : Nat, s.heap.size ≤ q → (va_A (bw qb cI b ++ sw qs cI s9 ++ uw qu cI cB u ++ kw qk qb qr qe qs qu qx qd cI kk ++ lo cL ao o) s.heap.size) q := fun q h => Or.inr h
  have hN : ∀ q : Nat, (va_A (bw qb cI b ++ sw qs cI s9 ++ uw qu cI cB u ++ kw qk qb qr qe qs qu qx qd cI kk ++ lo cL ao o) s.heap.size) q → N0 ≤ q := vA_N (ws := bw qb cI b ++ sw qs cI s9 ++ uw qu cI cB u ++ kw qk qb qr qe qs qu qx qd cI kk ++ lo cL ao o) hNa hsz
  have hD : gD (va_A (bw qb cI b ++ sw qs cI s9 ++ uw qu cI cB u ++ kw qk qb qr qe qs qu qx qd cI kk ++ lo cL ao o) s.heap.size) (bAd qb ++ sAd qs ++ uAd qu ++ kAd qk ++ [ao]) := gD_vA (ws := bw qb cI b ++ sw qs cI s9 ++ uw qu cI cB u ++ kw qk qb qr qe qs qu qx qd cI kk ++ lo cL ao o) hDa
  have hS : va_S (va_A (bw qb cI b ++ sw qs cI s9 ++ uw qu cI cB u ++ kw qk qb qr qe qs qu qx qd cI kk ++ lo cL ao o) s.heap.size) s.heap s.heap [] := va_S.rf
  have hPc : va_P (dC, dI) vwCl (bw qb cI b ++ sw qs cI s9 ++ uw qu cI cB u ++ kw qk qb qr qe qs qu qx qd cI kk) s.heap := va_P_pre hP
  refine lv_aload hx hb dL_addWall_0 (lv_at hl 4 rfl) ?_
  refine lv_iconst (v := 0) hx hb dL_addWall_2 (by decide) ?_
  refine lv_aload_n hx hb dL_addWall_3 rfl (lv_at hl 0 rfl) ?_
  refine lv_iload_n hx hb dL_addWall_4 rfl (lv_at hl 1 rfl) ?_
  refine lv_iload_n hx hb dL_addWall_5 rfl (lv_at hl 2 rfl) ?_
  refine lv_iload_n hx hb dL_addWall_6 rfl (lv_at hl 3 rfl) ?_
  refine l_call (w0 := bw qb cI b ++ sw qs cI s9 ++ uw qu cI cB u ++ kw qk qb qr qe qs qu qx qd cI kk) (wo := lo cL ao o) (vx_runV (As := [.int a1, .int a2, .int a3]) (rest := [.int 0, .ref ao]) ⟨hx, hb, hml, hown, hts⟩ (mX11_addWall l hfl dC dI cI cB cO cL N0 sT eA qb qs qu qk qr qe qx qd b s9 u kk a1 a2 a3 s.heap.size hsz (gD_pre hDa) (fun a h => hNa a (List.mem_append_left _ h)) hok) (cwV 3 hts gM_addWall rfl rfl rfl (by decide +kernel) ⟨Nat.le_of_ble_eq_true rfl, Nat.le_of_ble_eq_true rfl⟩) ⟨zP_blind, va_recv hK hPc (ci := 8) (q0 := 52) rfl rfl, zP_ok hPc hK hF hS hN⟩ rfl rfl hl.1 rfl (lv_room (Nat.le_of_ble_eq_true rfl)) dL_addWall_7 ⟨Nat.le_of_ble_eq_true rfl, Nat.le_of_ble_eq_true rfl⟩) hP (gD_va hD rfl) hS hA (fun hne q9 ce H locs hP hS hce hcv hcl => ?_) (fun h0 H locs hP hS => ?_)
  · rcases hc.resolve_left hne with hx2 | hx3
    · have hcl : s.vm.findClass "java/lang/IllegalArgumentException" = some ce.cls := (congrArg (fun z => s.vm.findClass (xN z)) hx2).symm.trans hcl
      refine vx_catch (E := "java/lang/IllegalArgumentException") (name := "java/lang/IllegalArgumentException") hown [] ⟨0, 12, 15, 13⟩ [⟨0, 12, 19, 18⟩] htab (fun z hz => absurd hz List.not_mem_nil) rfl (by decide) (hts (.classLink RL 13 "java/lang/IllegalArgumentException") (by decide +kernel)) (hF.2.1.cas _ cas2) hce hcv hcl ?_
      refine lv_astore (lv' := [(5, .ref q9), (0, .ref (qk 0)), (1, .int a1), (2, .int a2), (3, .int a3), (4, .ref ao)]) hx hb dL_addWall_15 hl (by decide) rfl (fun ls hl => ?_)
      refine lv_iconst (v := 1) hx hb dL_addWall_17 (by decide) ?_
      exact e_L C0 (lF_1 hne hx2) hP hS rfl rfl dL_addWall_18
    · have hcl : s.vm.findClass "java/lang/IllegalStateException" = some ce.cls := (congrArg (fun z => s.vm.findClass (xN z)) hx3).symm.trans hcl
      refine vx_catch (E := "java/lang/IllegalStateException") (name := "java/lang/IllegalStateException") hown [⟨0, 12, 15, 13⟩] ⟨0, 12, 19, 18⟩ [] htab (fun z hz => Or.inr (by rw [List.mem_singleton.mp hz]; exact ⟨by decide, "java/lang/IllegalArgumentException", hts (.classLink RL 13 "java/lang/IllegalArgumentException") (by decide +kernel), hC.2.1⟩)) rfl (by decide) (hts (.classLink RL 18 "java/lang/IllegalStateException") (by decide +kernel)) (hF.2.1.cas _ cas3) hce hcv hcl ?_
      refine lv_astore (lv' := [(5, .ref q9), (0, .ref (qk 0)), (1, .int a1), (2, .int a2), (3, .int a3), (4, .ref ao)]) hx hb dL_addWall_19 hl (by decide) rfl (fun ls hl => ?_)
      refine lv_iconst (v := 2) hx hb dL_addWall_21 (by decide) ?_
      exact e_L C0 (lF_2 hne (by rw [hx3]; decide)) hP hS rfl rfl dL_addWall_22
  · refine lv_i2l hx hb dL_addWall_10 rfl ?_
    refine va_last (D := (dC, dI)) (tys := tYS cI cB cO cL) hx hb hK hP (gD_va hD rfl) hS 53 3 rfl rfl (vp_in_n (i := 0) (by omega) (by omega)) dL_addWall_11 (fun H locs hP hD hS => ?_)
    refine lv_goto (tgt := 23) hx hb dL_addWall_12 (by decide) ?_
    refine lv_iconst (v := 0) hx hb dL_addWall_23 (by decide) ?_
    exact e_L C0 (lF_0 h0) hP hS rfl rfl dL_addWall_24
abbrev rL_addScreen : Room := { frames := 8, cells := 4, slots := 24, locals := 148 }
set_option maxHeartbeats 4000000 in
set_option maxRecDepth 100000 in
theorem mL_addScreen (l : Launch) (hfl : l.stackTraces = false) (dC : Nat → ClassId) (dI : Nat → Nat → Nat) (cI cB cO cL : ClassId) (N0 : Nat) (sT eA : Nat → Nat) (qb : Nat → Nat) (qs : Nat → Nat) (qu : Nat → Nat) (qk : Nat → Nat) (qr : Nat → Nat) (qe : Nat → Nat) (qx : Nat → Nat) (qd : Nat → Nat) (b : BS) (s9 : SS) (u : US) (kk : Int32) (a1 : Int32) (a2 : Int32) (a3 : Int32) (a4 : Int32) (ao : Nat) (o : Nat → Int64) (sz : Nat) (hsz : N0 ≤ sz) (hDa : gD (fun _ => True) (bAd qb ++ sAd qs ++ uAd qu ++ kAd qk ++ [ao])) (hNa : ∀ a ∈ (bAd qb ++ sAd qs ++ uAd qu ++ kAd qk ++ [ao] : List Nat), N0 ≤ a) (hok : kX11_addScreen b s9 u kk a1 a2 a3 a4) (hc : (pX11_addScreen b s9 u kk a1 a2 a3 a4).1 = 0 ∨ (pX11_addScreen b s9 u kk a1 a2 a3 a4).1 = 2 ∨ (pX11_addScreen b s9 u kk a1 a2 a3 a4).1 = 3) : Met l yL_addScreen wsM_addScreen rL_addScreen (lP N0 sz sT eA (dC, dI) (tYS cI cB cO cL) (bw qb cI b ++ sw qs cI s9 ++ uw qu cI cB u ++ kw qk qb qr qe qs qu qx qd cI kk ++ lo cL ao o) [.ref (qk 0), .int a1, .int a2, .int a3, .int a4, .ref ao]) (lQ (dC, dI) (fun z9 : BS × SS × US × Int32 => bw qb cI z9.1 ++ sw qs cI z9.2.1 ++ uw qu cI cB z9.2.2.1 ++ kw qk qb qr qe qs qu qx qd cI z9.2.2.2) cL ao (va_A (bw qb cI b ++ sw qs cI s9 ++ uw qu cI cB u ++ kw qk qb qr qe qs qu qx qd cI kk ++ lo cL ao o) sz) 2 (pX11_addScreen b s9 u kk a1 a2 a3 a4) o) 4 24 (va_A (bw qb cI b ++ sw qs cI s9 ++ uw qu cI cB u ++ kw qk qb qr qe qs qu qx qd cI kk ++ lo cL ao o) sz) := by
  refine lMet (cc := cL_addScreen) (maxL := 7) (ret := some .int) (hh := [(0, 14, 17, 13), (0, 14, 21, 18)]) [(0, .ref (qk 0)), (1, .int a1), (2, .int a2), (3, .int a3), (4, .int a4), (5, .ref ao)] (by decide) rfl rfl rfl ?_
  intro p e s mi below meth c C0 htab hz hK hF hC hP ls hl
  obtain ⟨hx, hb, hr, hml, hown, hts, hlocks⟩ := id C0
  have hown : s.vm.findClass RL = some mi.cls := hown
  have htab : c.exceptionTable.toList = [⟨0, 14, 17, 13⟩, ⟨0, 14, 21, 18⟩] := htab
  subst hz
  have hA : ∀ q : Nat, s.heap.size ≤ q → (va_A (bw qb cI b ++ sw qs cI s9 ++ uw qu cI cB u ++ kw qk qb qr qe qs qu qx qd cI kk ++ lo cL ao o) s.heap.size) q := fun q h => Or.inr h
  have hN : ∀ q : Nat, (va_A (bw qb cI b ++ sw qs cI s9 ++ uw qu cI cB u ++ kw qk qb qr qe qs qu qx qd cI kk ++ lo cL ao o) s.heap.size) q → N0 ≤ q := vA_N (ws := bw qb cI b ++ sw qs cI s9 ++ uw qu cI cB u ++ kw qk qb qr qe qs qu qx qd cI kk ++ lo cL ao o) hNa hsz
  have hD : gD (va_A (bw qb cI b ++ sw qs cI s9 ++ uw qu cI cB u ++ kw qk qb qr qe qs qu qx qd cI kk ++ lo cL ao o) s.heap.size) (bAd qb ++ sAd qs ++ uAd qu ++ kAd qk ++ [ao]) := gD_vA (ws := bw qb cI b ++ sw qs cI s9 ++ uw qu cI cB u ++ kw qk qb qr qe qs qu qx qd cI kk ++ lo cL ao o) hDa
  have hS : va_S (va_A (bw qb cI b ++ sw qs cI s9 ++ uw qu cI cB u ++ kw qk qb qr qe qs qu qx qd cI kk ++ lo cL ao o) s.heap.size) s.heap s.heap [] := va_S.rf
  have hPc : va_P (dC, dI) vwCl (bw qb cI b ++ sw qs cI s9 ++ uw qu cI cB u ++ kw qk qb qr qe qs qu qx qd cI kk) s.heap := va_P_pre hP
  refine lv_aload hx hb dL_addScreen_0 (lv_at hl 5 rfl) ?_
  refine lv_iconst (v := 0) hx hb dL_addScreen_2 (by decide) ?_
  refine lv_aload_n hx hb dL_addScreen_3 rfl (lv_at hl 0 rfl) ?_
  refine lv_iload_n hx hb dL_addScreen_4 rfl (lv_at hl 1 rfl) ?_
  refine lv_iload_n hx hb dL_addScreen_5 rfl (lv_at hl 2 rfl) ?_
  refine lv_iload_n hx hb dL_addScreen_6 rfl (lv_at hl 3 rfl) ?_
  refine lv_iload hx hb dL_addScreen_7 (lv_at hl 4 rfl) ?_
  refine l_call (w0 := bw qb cI b ++ sw qs cI s9 ++ uw qu cI cB u ++ kw qk qb qr qe qs qu qx qd cI kk) (wo := lo cL ao o) (vx_runV (As := [.int a1, .int a2, .int a3, .int a4]) (rest := [.int 0, .ref ao]) ⟨hx, hb, hml, hown, hts⟩ (mX11_addScreen l hfl dC dI cI cB cO cL N0 sT eA qb qs qu qk qr qe qx qd b s9 u kk a1 a2 a3 a4 s.heap.size hsz (gD_pre hDa) (fun a h => hNa a (List.mem_append_left _ h)) hok) (cwV 4 hts gM_addScreen rfl rfl rfl (by decide +kernel) ⟨Nat.le_of_ble_eq_true rfl, Nat.le_of_ble_eq_true rfl⟩) ⟨zP_blind, va_recv hK hPc (ci := 8) (q0 := 52) rfl rfl, zP_ok hPc hK hF hS hN⟩ rfl rfl hl.1 rfl (lv_room (Nat.le_of_ble_eq_true rfl)) dL_addScreen_9 ⟨Nat.le_of_ble_eq_true rfl, Nat.le_of_ble_eq_true rfl⟩) hP (gD_va hD rfl) hS hA (fun hne q9 ce H locs hP hS hce hcv hcl => ?_) (fun h0 H locs hP hS => ?_)
  · rcases hc.resolve_left hne with hx2 | hx3
    · have hcl : s.vm.findClass "java/lang/IllegalArgumentException" = some ce.cls := (congrArg (fun z => s.vm.findClass (xN z)) hx2).symm.trans hcl
      refine vx_catch (E := "java/lang/IllegalArgumentException") (name := "java/lang/IllegalArgumentException") hown [] ⟨0, 14, 17, 13⟩ [⟨0, 14, 21, 18⟩] htab (fun z hz => absurd hz List.not_mem_nil) rfl (by decide) (hts (.classLink RL 13 "java/lang/IllegalArgumentException") (by decide +kernel)) (hF.2.1.cas _ cas2) hce hcv hcl ?_
      refine lv_astore (lv' := [(6, .ref q9), (0, .ref (qk 0)), (1, .int a1), (2, .int a2), (3, .int a3), (4, .int a4), (5, .ref ao)]) hx hb dL_addScreen_17 hl (by decide) rfl (fun ls hl => ?_)
      refine lv_iconst (v := 1) hx hb dL_addScreen_19 (by decide) ?_
      exact e_L C0 (lF_1 hne hx2) hP hS rfl rfl dL_addScreen_20
    · have hcl : s.vm.findClass "java/lang/IllegalStateException" = some ce.cls := (congrArg (fun z => s.vm.findClass (xN z)) hx3).symm.trans hcl
      refine vx_catch (E := "java/lang/IllegalStateException") (name := "java/lang/IllegalStateException") hown [⟨0, 14, 17, 13⟩] ⟨0, 14, 21, 18⟩ [] htab (fun z hz => Or.inr (by rw [List.mem_singleton.mp hz]; exact ⟨by decide, "java/lang/IllegalArgumentException", hts (.classLink RL 13 "java/lang/IllegalArgumentException") (by decide +kernel), hC.2.1⟩)) rfl (by decide) (hts (.classLink RL 18 "java/lang/IllegalStateException") (by decide +kernel)) (hF.2.1.cas _ cas3) hce hcv hcl ?_
      refine lv_astore (lv' := [(6, .ref q9), (0, .ref (qk 0)), (1, .int a1), (2, .int a2), (3, .int a3), (4, .int a4), (5, .ref ao)]) hx hb dL_addScreen_21 hl (by decide) rfl (fun ls hl => ?_)
      refine lv_iconst (v := 2) hx hb dL_addScreen_23 (by decide) ?_
      exact e_L C0 (lF_2 hne (by rw [hx3]; decide)) hP hS rfl rfl dL_addScreen_24
  · refine lv_i2l hx hb dL_addScreen_12 rfl ?_
    refine va_last (D := (dC, dI)) (tys := tYS cI cB cO cL) hx hb hK hP (gD_va hD rfl) hS 53 3 rfl rfl (vp_in_n (i := 0) (by omega) (by omega)) dL_addScreen_13 (fun H locs hP hD hS => ?_)
    refine lv_goto (tgt := 25) hx hb dL_addScreen_14 (by decide) ?_
    refine lv_iconst (v := 0) hx hb dL_addScreen_25 (by decide) ?_
    exact e_L C0 (lF_0 h0) hP hS rfl rfl dL_addScreen_26
abbrev rL_remove : Room := { frames := 9, cells := 4, slots := 24, locals := 155 }
set_option maxHeartbeats 4000000 in
set_option maxRecDepth 100000 in
theorem mL_remove (l : Launch) (hfl : l.stackTraces = false) (dC : Nat → ClassId) (dI : Nat → Nat → Nat) (cI cB cO cL : ClassId) (N0 : Nat) (sT eA : Nat → Nat) (qb : Nat → Nat) (qs : Nat → Nat) (qu : Nat → Nat) (qk : Nat → Nat) (qr : Nat → Nat) (qe : Nat → Nat) (qx : Nat → Nat) (qd : Nat → Nat) (b : BS) (s9 : SS) (u : US) (kk : Int32) (a1 : Int32) (a2 : Int32) (ao : Nat) (o : Nat → Int64) (sz : Nat) (hsz : N0 ≤ sz) (hDa : gD (fun _ => True) (bAd qb ++ sAd qs ++ uAd qu ++ kAd qk ++ [ao])) (hNa : ∀ a ∈ (bAd qb ++ sAd qs ++ uAd qu ++ kAd qk ++ [ao] : List Nat), N0 ≤ a) (hok : kX11_remove b s9 u kk a1 a2) (hc : (pX11_remove b s9 u kk a1 a2).1 = 0 ∨ (pX11_remove b s9 u kk a1 a2).1 = 2 ∨ (pX11_remove b s9 u kk a1 a2).1 = 1) : Met l yL_remove wsM_remove rL_remove (lP N0 sz sT eA (dC, dI) (tYS cI cB cO cL) (bw qb cI b ++ sw qs cI s9 ++ uw qu cI cB u ++ kw qk qb qr qe qs qu qx qd cI kk ++ lo cL ao o) [.ref (qk 0), .int a1, .int a2, .ref ao]) (lQ (dC, dI) (fun z9 : BS × SS × US × Int32 => bw qb cI z9.1 ++ sw qs cI z9.2.1 ++ uw qu cI cB z9.2.2.1 ++ kw qk qb qr qe qs qu qx qd cI z9.2.2.2) cL ao (va_A (bw qb cI b ++ sw qs cI s9 ++ uw qu cI cB u ++ kw qk qb qr qe qs qu qx qd cI kk ++ lo cL ao o) sz) 2 (pX11_remove b s9 u kk a1 a2) o) 4 24 (va_A (bw qb cI b ++ sw qs cI s9 ++ uw qu cI cB u ++ kw qk qb qr qe qs qu qx qd cI kk ++ lo cL ao o) sz) := by
  refine lMet (cc := cL_remove) (maxL := 5) (ret := some .int) (hh := [(0, 10, 13, 13), (0, 10, 17, 23)]) [(0, .ref (qk 0)), (1, .int a1), (2, .int a2), (3, .ref ao)] (by decide) rfl rfl rfl ?_
  intro p e s mi below meth c C0 htab hz hK hF hC hP ls hl
  obtain ⟨hx, hb, hr, hml, hown, hts, hlocks⟩ := id C0
  have hown : s.vm.findClass RL = some mi.cls := hown
  have htab : c.exceptionTable.toList = [⟨0, 10, 13, 13⟩, ⟨0, 10, 17, 23⟩] := htab
  subst hz
  have hA : ∀ q : Nat, s.heap.size ≤ q → (va_A (bw qb cI b ++ sw qs cI s9 ++ uw qu cI cB u ++ kw qk qb qr qe qs qu qx qd cI kk ++ lo cL ao o) s.heap.size) q := fun q h => Or.inr h
  have hN : ∀ q : Nat, (va_A (bw qb cI b ++ sw qs cI s9 ++ uw qu cI cB u ++ kw qk qb qr qe qs qu qx qd cI kk ++ lo cL ao o) s.heap.size) q → N0 ≤ q := vA_N (ws := bw qb cI b ++ sw qs cI s9 ++ uw qu cI cB u ++ kw qk qb qr qe qs qu qx qd cI kk ++ lo cL ao o) hNa hsz
  have hD : gD (va_A (bw qb cI b ++ sw qs cI s9 ++ uw qu cI cB u ++ kw qk qb qr qe qs qu qx qd cI kk ++ lo cL ao o) s.heap.size) (bAd qb ++ sAd qs ++ uAd qu ++ kAd qk ++ [ao]) := gD_vA (ws := bw qb cI b ++ sw qs cI s9 ++ uw qu cI cB u ++ kw qk qb qr qe qs qu qx qd cI kk ++ lo cL ao o) hDa
  have hS : va_S (va_A (bw qb cI b ++ sw qs cI s9 ++ uw qu cI cB u ++ kw qk qb qr qe qs qu qx qd cI kk ++ lo cL ao o) s.heap.size) s.heap s.heap [] := va_S.rf
  have hPc : va_P (dC, dI) vwCl (bw qb cI b ++ sw qs cI s9 ++ uw qu cI cB u ++ kw qk qb qr qe qs qu qx qd cI kk) s.heap := va_P_pre hP
  refine lv_aload_n hx hb dL_remove_0 rfl (lv_at hl 3 rfl) ?_
  refine lv_iconst (v := 0) hx hb dL_remove_1 (by decide) ?_
  refine lv_aload_n hx hb dL_remove_2 rfl (lv_at hl 0 rfl) ?_
  refine lv_iload_n hx hb dL_remove_3 rfl (lv_at hl 1 rfl) ?_
  refine lv_iload_n hx hb dL_remove_4 rfl (lv_at hl 2 rfl) ?_
  refine l_call (w0 := bw qb cI b ++ sw qs cI s9 ++ uw qu cI cB u ++ kw qk qb qr qe qs qu qx qd cI kk) (wo := lo cL ao o) (vx_runV (As := [.int a1, .int a2]) (rest := [.int 0, .ref ao]) ⟨hx, hb, hml, hown, hts⟩ (mX11_remove l hfl dC dI cI cB cO cL N0 sT eA qb qs qu qk qr qe qx qd b s9 u kk a1 a2 s.heap.size hsz (gD_pre hDa) (fun a h => hNa a (List.mem_append_left _ h)) hok) (cwV 2 hts gM_remove rfl rfl rfl (by decide +kernel) ⟨Nat.le_of_ble_eq_true rfl, Nat.le_of_ble_eq_true rfl⟩) ⟨zP_blind, va_recv hK hPc (ci := 8) (q0 := 52) rfl rfl, zP_ok hPc hK hF hS hN⟩ rfl rfl hl.1 rfl (lv_room (Nat.le_of_ble_eq_true rfl)) dL_remove_5 ⟨Nat.le_of_ble_eq_true rfl, Nat.le_of_ble_eq_true rfl⟩) hP (gD_va hD rfl) hS hA (fun hne q9 ce H locs hP hS hce hcv hcl => ?_) (fun h0 H locs hP hS => ?_)
  · rcases hc.resolve_left hne with hx2 | hx1
    · have hcl : s.vm.findClass "java/lang/IllegalArgumentException" = some ce.cls := (congrArg (fun z => s.vm.findClass (xN z)) hx2).symm.trans hcl
      refine vx_catch (E := "java/lang/IllegalArgumentException") (name := "java/lang/IllegalArgumentException") hown [] ⟨0, 10, 13, 13⟩ [⟨0, 10, 17, 23⟩] htab (fun z hz => absurd hz List.not_mem_nil) rfl (by decide) (hts (.classLink RL 13 "java/lang/IllegalArgumentException") (by decide +kernel)) (hF.2.1.cas _ cas2) hce hcv hcl ?_
      refine lv_astore (lv' := [(4, .ref q9), (0, .ref (qk 0)), (1, .int a1), (2, .int a2), (3, .ref ao)]) hx hb dL_remove_13 hl (by decide) rfl (fun ls hl => ?_)
      refine lv_iconst (v := 1) hx hb dL_remove_15 (by decide) ?_
      exact e_L C0 (lF_1 hne hx2) hP hS rfl rfl dL_remove_16
    · have hcl : s.vm.findClass "java/lang/IndexOutOfBoundsException" = some ce.cls := (congrArg (fun z => s.vm.findClass (xN z)) hx1).symm.trans hcl
      refine vx_catch (E := "java/lang/IndexOutOfBoundsException") (name := "java/lang/IndexOutOfBoundsException") hown [⟨0, 10, 13, 13⟩] ⟨0, 10, 17, 23⟩ [] htab (fun z hz => Or.inr (by rw [List.mem_singleton.mp hz]; exact ⟨by decide, "java/lang/IllegalArgumentException", hts (.classLink RL 13 "java/lang/IllegalArgumentException") (by decide +kernel), hC.1⟩)) rfl (by decide) (hts (.classLink RL 23 "java/lang/IndexOutOfBoundsException") (by decide +kernel)) (hF.2.1.cas _ cas1) hce hcv hcl ?_
      refine lv_astore (lv' := [(4, .ref q9), (0, .ref (qk 0)), (1, .int a1), (2, .int a2), (3, .ref ao)]) hx hb dL_remove_17 hl (by decide) rfl (fun ls hl => ?_)
      refine lv_iconst (v := 2) hx hb dL_remove_19 (by decide) ?_
      exact e_L C0 (lF_2 hne (by rw [hx1]; decide)) hP hS rfl rfl dL_remove_20
  · refine lv_i2l hx hb dL_remove_8 rfl ?_
    refine va_last (D := (dC, dI)) (tys := tYS cI cB cO cL) hx hb hK hP (gD_va hD rfl) hS 53 3 rfl rfl (vp_in_n (i := 0) (by omega) (by omega)) dL_remove_9 (fun H locs hP hD hS => ?_)
    refine lv_goto (tgt := 21) hx hb dL_remove_10 (by decide) ?_
    refine lv_iconst (v := 0) hx hb dL_remove_21 (by decide) ?_
    exact e_L C0 (lF_0 h0) hP hS rfl rfl dL_remove_22
abbrev rL_set : Room := { frames := 8, cells := 4, slots := 24, locals := 146 }
set_option maxHeartbeats 4000000 in
set_option maxRecDepth 100000 in
theorem mL_set (l : Launch) (hfl : l.stackTraces = false) (dC : Nat → ClassId) (dI : Nat → Nat → Nat) (cI cB cO cL : ClassId) (N0 : Nat) (sT eA : Nat → Nat) (qb : Nat → Nat) (qs : Nat → Nat) (qu : Nat → Nat) (qk : Nat → Nat) (qr : Nat → Nat) (qe : Nat → Nat) (qx : Nat → Nat) (qd : Nat → Nat) (b : BS) (s9 : SS) (u : US) (kk : Int32) (a1 : Int32) (a2 : Int32) (ao : Nat) (o : Nat → Int64) (sz : Nat) (hsz : N0 ≤ sz) (hDa : gD (fun _ => True) (bAd qb ++ sAd qs ++ uAd qu ++ kAd qk ++ [ao])) (hNa : ∀ a ∈ (bAd qb ++ sAd qs ++ uAd qu ++ kAd qk ++ [ao] : List Nat), N0 ≤ a) (hok : kX11_set b s9 u kk a1 a2) (hc : (pX11_set b s9 u kk a1 a2).1 = 0 ∨ (pX11_set b s9 u kk a1 a2).1 = 2) : Met l yL_set wsM_set rL_set (lP N0 sz sT eA (dC, dI) (tYS cI cB cO cL) (bw qb cI b ++ sw qs cI s9 ++ uw qu cI cB u ++ kw qk qb qr qe qs qu qx qd cI kk ++ lo cL ao o) [.ref (qk 0), .int a1, .int a2, .ref ao]) (lQ (dC, dI) (fun z9 : BS × SS × US × Int32 => bw qb cI z9.1 ++ sw qs cI z9.2.1 ++ uw qu cI cB z9.2.2.1 ++ kw qk qb qr qe qs qu qx qd cI z9.2.2.2) cL ao (va_A (bw qb cI b ++ sw qs cI s9 ++ uw qu cI cB u ++ kw qk qb qr qe qs qu qx qd cI kk ++ lo cL ao o) sz) 2 (pX11_set b s9 u kk a1 a2) o) 4 24 (va_A (bw qb cI b ++ sw qs cI s9 ++ uw qu cI cB u ++ kw qk qb qr qe qs qu qx qd cI kk ++ lo cL ao o) sz) := by
  refine lMet (cc := cL_set) (maxL := 5) (ret := some .int) (hh := [(0, 10, 13, 13)]) [(0, .ref (qk 0)), (1, .int a1), (2, .int a2), (3, .ref ao)] (by decide) rfl rfl rfl ?_
  intro p e s mi below meth c C0 htab hz hK hF hC hP ls hl
  obtain ⟨hx, hb, hr, hml, hown, hts, hlocks⟩ := id C0
  have hown : s.vm.findClass RL = some mi.cls := hown
  have htab : c.exceptionTable.toList = [⟨0, 10, 13, 13⟩] := htab
  subst hz
  have hA : ∀ q : Nat, s.heap.size ≤ q → (va_A (bw qb cI b ++ sw qs cI s9 ++ uw qu cI cB u ++ kw qk qb qr qe qs qu qx qd cI kk ++ lo cL ao o) s.heap.size) q := fun q h => Or.inr h
  have hN : ∀ q : Nat, (va_A (bw qb cI b ++ sw qs cI s9 ++ uw qu cI cB u ++ kw qk qb qr qe qs qu qx qd cI kk ++ lo cL ao o) s.heap.size) q → N0 ≤ q := vA_N (ws := bw qb cI b ++ sw qs cI s9 ++ uw qu cI cB u ++ kw qk qb qr qe qs qu qx qd cI kk ++ lo cL ao o) hNa hsz
  have hD : gD (va_A (bw qb cI b ++ sw qs cI s9 ++ uw qu cI cB u ++ kw qk qb qr qe qs qu qx qd cI kk ++ lo cL ao o) s.heap.size) (bAd qb ++ sAd qs ++ uAd qu ++ kAd qk ++ [ao]) := gD_vA (ws := bw qb cI b ++ sw qs cI s9 ++ uw qu cI cB u ++ kw qk qb qr qe qs qu qx qd cI kk ++ lo cL ao o) hDa
  have hS : va_S (va_A (bw qb cI b ++ sw qs cI s9 ++ uw qu cI cB u ++ kw qk qb qr qe qs qu qx qd cI kk ++ lo cL ao o) s.heap.size) s.heap s.heap [] := va_S.rf
  have hPc : va_P (dC, dI) vwCl (bw qb cI b ++ sw qs cI s9 ++ uw qu cI cB u ++ kw qk qb qr qe qs qu qx qd cI kk) s.heap := va_P_pre hP
  refine lv_aload_n hx hb dL_set_0 rfl (lv_at hl 3 rfl) ?_
  refine lv_iconst (v := 0) hx hb dL_set_1 (by decide) ?_
  refine lv_aload_n hx hb dL_set_2 rfl (lv_at hl 0 rfl) ?_
  refine lv_iload_n hx hb dL_set_3 rfl (lv_at hl 1 rfl) ?_
  refine lv_iload_n hx hb dL_set_4 rfl (lv_at hl 2 rfl) ?_
  refine l_call (w0 := bw qb cI b ++ sw qs cI s9 ++ uw qu cI cB u ++ kw qk qb qr qe qs qu qx qd cI kk) (wo := lo cL ao o) (vx_runV (As := [.int a1, .int a2]) (rest := [.int 0, .ref ao]) ⟨hx, hb, hml, hown, hts⟩ (mX11_set l hfl dC dI cI cB cO cL N0 sT eA qb qs qu qk qr qe qx qd b s9 u kk a1 a2 s.heap.size hsz (gD_pre hDa) (fun a h => hNa a (List.mem_append_left _ h)) hok) (cwV 2 hts gM_set rfl rfl rfl (by decide +kernel) ⟨Nat.le_of_ble_eq_true rfl, Nat.le_of_ble_eq_true rfl⟩) ⟨zP_blind, va_recv hK hPc (ci := 8) (q0 := 52) rfl rfl, zP_ok hPc hK hF hS hN⟩ rfl rfl hl.1 rfl (lv_room (Nat.le_of_ble_eq_true rfl)) dL_set_5 ⟨Nat.le_of_ble_eq_true rfl, Nat.le_of_ble_eq_true rfl⟩) hP (gD_va hD rfl) hS hA (fun hne q9 ce H locs hP hS hce hcv hcl => ?_) (fun h0 H locs hP hS => ?_)
  · have hx2 := hc.resolve_left hne
    have hcl : s.vm.findClass "java/lang/IllegalArgumentException" = some ce.cls := (congrArg (fun z => s.vm.findClass (xN z)) hx2).symm.trans hcl
    refine vx_catch (E := "java/lang/IllegalArgumentException") (name := "java/lang/IllegalArgumentException") hown [] ⟨0, 10, 13, 13⟩ [] htab (fun z hz => absurd hz List.not_mem_nil) rfl (by decide) (hts (.classLink RL 13 "java/lang/IllegalArgumentException") (by decide +kernel)) (hF.2.1.cas _ cas2) hce hcv hcl ?_
    refine lv_astore (lv' := [(4, .ref q9), (0, .ref (qk 0)), (1, .int a1), (2, .int a2), (3, .ref ao)]) hx hb dL_set_13 hl (by decide) rfl (fun ls hl => ?_)
    refine lv_iconst (v := 1) hx hb dL_set_15 (by decide) ?_
    exact e_L C0 (lF_1 hne hx2) hP hS rfl rfl dL_set_16
  · refine lv_i2l hx hb dL_set_8 rfl ?_
    refine va_last (D := (dC, dI)) (tys := tYS cI cB cO cL) hx hb hK hP (gD_va hD rfl) hS 53 3 rfl rfl (vp_in_n (i := 0) (by omega) (by omega)) dL_set_9 (fun H locs hP hD hS => ?_)
    refine lv_goto (tgt := 17) hx hb dL_set_10 (by decide) ?_
    refine lv_iconst (v := 0) hx hb dL_set_17 (by decide) ?_
    exact e_L C0 (lF_0 h0) hP hS rfl rfl dL_set_18
abbrev rL_setS : Room := { frames := 9, cells := 4, slots := 24, locals := 154 }
set_option maxHeartbeats 4000000 in
set_option maxRecDepth 100000 in
theorem mL_setS (l : Launch) (hfl : l.stackTraces = false) (dC : Nat → ClassId) (dI : Nat → Nat → Nat) (cI cB cO cL : ClassId) (N0 : Nat) (sT eA : Nat → Nat) (qb : Nat → Nat) (qs : Nat → Nat) (qu : Nat → Nat) (qk : Nat → Nat) (qr : Nat → Nat) (qe : Nat → Nat) (qx : Nat → Nat) (qd : Nat → Nat) (b : BS) (s9 : SS) (u : US) (kk : Int32) (a1 : Int32) (ao : Nat) (o : Nat → Int64) (sz : Nat) (hsz : N0 ≤ sz) (hDa : gD (fun _ => True) (bAd qb ++ sAd qs ++ uAd qu ++ kAd qk ++ [ao])) (hNa : ∀ a ∈ (bAd qb ++ sAd qs ++ uAd qu ++ kAd qk ++ [ao] : List Nat), N0 ≤ a) (hok : kX11_setS b s9 u kk a1) (hc : (pX11_setS b s9 u kk a1).1 = 0 ∨ (pX11_setS b s9 u kk a1).1 = 2) : Met l yL_setS wsM_setS rL_setS (lP N0 sz sT eA (dC, dI) (tYS cI cB cO cL) (bw qb cI b ++ sw qs cI s9 ++ uw qu cI cB u ++ kw qk qb qr qe qs qu qx qd cI kk ++ lo cL ao o) [.ref (qk 0), .int a1, .ref ao]) (lQ (dC, dI) (fun z9 : BS × SS × US × Int32 => bw qb cI z9.1 ++ sw qs cI z9.2.1 ++ uw qu cI cB z9.2.2.1 ++ kw qk qb qr qe qs qu qx qd cI z9.2.2.2) cL ao (va_A (bw qb cI b ++ sw qs cI s9 ++ uw qu cI cB u ++ kw qk qb qr qe qs qu qx qd cI kk ++ lo cL ao o) sz) 2 (pX11_setS b s9 u kk a1) o) 4 24 (va_A (bw qb cI b ++ sw qs cI s9 ++ uw qu cI cB u ++ kw qk qb qr qe qs qu qx qd cI kk ++ lo cL ao o) sz) := by
  refine lMet (cc := cL_setS) (maxL := 4) (ret := some .int) (hh := [(0, 9, 12, 13)]) [(0, .ref (qk 0)), (1, .int a1), (2, .ref ao)] (by decide) rfl rfl rfl ?_
  intro p e s mi below meth c C0 htab hz hK hF hC hP ls hl
  obtain ⟨hx, hb, hr, hml, hown, hts, hlocks⟩ := id C0
  have hown : s.vm.findClass RL = some mi.cls := hown
  have htab : c.exceptionTable.toList = [⟨0, 9, 12, 13⟩] := htab
  subst hz
  have hA : ∀ q : Nat, s.heap.size ≤ q → (va_A (bw qb cI b ++ sw qs cI s9 ++ uw qu cI cB u ++ kw qk qb qr qe qs qu qx qd cI kk ++ lo cL ao o) s.heap.size) q := fun q h => Or.inr h
  have hN : ∀ q : Nat, (va_A (bw qb cI b ++ sw qs cI s9 ++ uw qu cI cB u ++ kw qk qb qr qe qs qu qx qd cI kk ++ lo cL ao o) s.heap.size) q → N0 ≤ q := vA_N (ws := bw qb cI b ++ sw qs cI s9 ++ uw qu cI cB u ++ kw qk qb qr qe qs qu qx qd cI kk ++ lo cL ao o) hNa hsz
  have hD : gD (va_A (bw qb cI b ++ sw qs cI s9 ++ uw qu cI cB u ++ kw qk qb qr qe qs qu qx qd cI kk ++ lo cL ao o) s.heap.size) (bAd qb ++ sAd qs ++ uAd qu ++ kAd qk ++ [ao]) := gD_vA (ws := bw qb cI b ++ sw qs cI s9 ++ uw qu cI cB u ++ kw qk qb qr qe qs qu qx qd cI kk ++ lo cL ao o) hDa
  have hS : va_S (va_A (bw qb cI b ++ sw qs cI s9 ++ uw qu cI cB u ++ kw qk qb qr qe qs qu qx qd cI kk ++ lo cL ao o) s.heap.size) s.heap s.heap [] := va_S.rf
  have hPc : va_P (dC, dI) vwCl (bw qb cI b ++ sw qs cI s9 ++ uw qu cI cB u ++ kw qk qb qr qe qs qu qx qd cI kk) s.heap := va_P_pre hP
  refine lv_aload_n hx hb dL_setS_0 rfl (lv_at hl 2 rfl) ?_
  refine lv_iconst (v := 0) hx hb dL_setS_1 (by decide) ?_
  refine lv_aload_n hx hb dL_setS_2 rfl (lv_at hl 0 rfl) ?_
  refine lv_iload_n hx hb dL_setS_3 rfl (lv_at hl 1 rfl) ?_
  refine l_call (w0 := bw qb cI b ++ sw qs cI s9 ++ uw qu cI cB u ++ kw qk qb qr qe qs qu qx qd cI kk) (wo := lo cL ao o) (vx_runV (As := [.int a1]) (rest := [.int 0, .ref ao]) ⟨hx, hb, hml, hown, hts⟩ (mX11_setS l hfl dC dI cI cB cO cL N0 sT eA qb qs qu qk qr qe qx qd b s9 u kk a1 s.heap.size hsz (gD_pre hDa) (fun a h => hNa a (List.mem_append_left _ h)) hok) (cwV 1 hts gM_setS rfl rfl rfl (by decide +kernel) ⟨Nat.le_of_ble_eq_true rfl, Nat.le_of_ble_eq_true rfl⟩) ⟨zP_blind, va_recv hK hPc (ci := 8) (q0 := 52) rfl rfl, zP_ok hPc hK hF hS hN⟩ rfl rfl hl.1 rfl (lv_room (Nat.le_of_ble_eq_true rfl)) dL_setS_4 ⟨Nat.le_of_ble_eq_true rfl, Nat.le_of_ble_eq_true rfl⟩) hP (gD_va hD rfl) hS hA (fun hne q9 ce H locs hP hS hce hcv hcl => ?_) (fun h0 H locs hP hS => ?_)
  · have hx2 := hc.resolve_left hne
    have hcl : s.vm.findClass "java/lang/IllegalArgumentException" = some ce.cls := (congrArg (fun z => s.vm.findClass (xN z)) hx2).symm.trans hcl
    refine vx_catch (E := "java/lang/IllegalArgumentException") (name := "java/lang/IllegalArgumentException") hown [] ⟨0, 9, 12, 13⟩ [] htab (fun z hz => absurd hz List.not_mem_nil) rfl (by decide) (hts (.classLink RL 13 "java/lang/IllegalArgumentException") (by decide +kernel)) (hF.2.1.cas _ cas2) hce hcv hcl ?_
    refine lv_astore_n (lv' := [(3, .ref q9), (0, .ref (qk 0)), (1, .int a1), (2, .ref ao)]) hx hb dL_setS_12 rfl hl (by decide) rfl (fun ls hl => ?_)
    refine lv_iconst (v := 1) hx hb dL_setS_13 (by decide) ?_
    exact e_L C0 (lF_1 hne hx2) hP hS rfl rfl dL_setS_14
  · refine lv_i2l hx hb dL_setS_7 rfl ?_
    refine va_last (D := (dC, dI)) (tys := tYS cI cB cO cL) hx hb hK hP (gD_va hD rfl) hS 53 3 rfl rfl (vp_in_n (i := 0) (by omega) (by omega)) dL_setS_8 (fun H locs hP hD hS => ?_)
    refine lv_goto (tgt := 15) hx hb dL_setS_9 (by decide) ?_
    refine lv_iconst (v := 0) hx hb dL_setS_15 (by decide) ?_
    exact e_L C0 (lF_0 h0) hP hS rfl rfl dL_setS_16
end HLP0
