/-! THE LAW: its helpers (2) -/
section HLP2
abbrev rL_votes : Room := { frames := 9, cells := 4, slots := 24, locals := 169 }
set_option maxHeartbeats 4000000 in
set_option maxRecDepth 100000 in
theorem mL_votes (l : Launch) (hfl : l.stackTraces = false) (dC : Nat → ClassId) (dI : Nat → Nat → Nat) (cI cB cO cL : ClassId) (N0 : Nat) (sT eA : Nat → Nat) (qs : Nat → Nat) (qb : Nat → Nat) (qk : Nat → Nat) (qr : Nat → Nat) (qe : Nat → Nat) (qu : Nat → Nat) (qx : Nat → Nat) (qd : Nat → Nat) (s9 : SS) (b : BS) (kk : Int32) (a1 : Int32) (ao : Nat) (o : Nat → Int64) (sz : Nat) (hsz : N0 ≤ sz) (hDa : gD (fun _ => True) (sAd qs ++ bAd qb ++ kAd qk ++ [ao])) (hNa : ∀ a ∈ (sAd qs ++ bAd qb ++ kAd qk ++ [ao] : List Nat), N0 ≤ a) (hok : kX11_votes s9 b kk a1) (hc : (pX11_votes s9 b kk a1).1 = 0 ∨ (pX11_votes s9 b kk a1).1 = 1) : Met l yL_votes wsM_votes rL_votes (lP N0 sz sT eA (dC, dI) (tYS cI cB cO cL) (sw qs cI s9 ++ bw qb cI b ++ kw qk qb qr qe qs qu qx qd cI kk ++ lo cL ao o) [.ref (qk 0), .int a1, .ref ao]) (lQ (dC, dI) (fun z9 : SS × BS × Int32 => sw qs cI z9.1 ++ bw qb cI z9.2.1 ++ kw qk qb qr qe qs qu qx qd cI z9.2.2) cL ao (va_A (sw qs cI s9 ++ bw qb cI b ++ kw qk qb qr qe qs qu qx qd cI kk ++ lo cL ao o) sz) 1 (pX11_votes s9 b kk a1) o) 4 24 (va_A (sw qs cI s9 ++ bw qb cI b ++ kw qk qb qr qe qs qu qx qd cI kk ++ lo cL ao o) sz) := by
  refine lMet (cc := cL_votes) (maxL := 4) (ret := some .int) (hh := [(0, 9, 12, 23)]) [(0, .ref (qk 0)), (1, .int a1), (2, .ref ao)] (by decide) rfl rfl rfl ?_
  intro p e s mi below meth c C0 htab hz hK hF hC hP ls hl
  obtain ⟨hx, hb, hr, hml, hown, hts, hlocks⟩ := id C0
  have hown : s.vm.findClass RL = some mi.cls := hown
  have htab : c.exceptionTable.toList = [⟨0, 9, 12, 23⟩] := htab
  subst hz
  have hA : ∀ q : Nat, s.heap.size ≤ q → (va_A (sw qs cI s9 ++ bw qb cI b ++ kw qk qb qr qe qs qu qx qd cI kk ++ lo cL ao o) s.heap.size) q := fun q h => Or.inr h
  have hN : ∀ q : Nat, (va_A (sw qs cI s9 ++ bw qb cI b ++ kw qk qb qr qe qs qu qx qd cI kk ++ lo cL ao o) s.heap.size) q → N0 ≤ q := vA_N (ws := sw qs cI s9 ++ bw qb cI b ++ kw qk qb qr qe qs qu qx qd cI kk ++ lo cL ao o) hNa hsz
  have hD : gD (va_A (sw qs cI s9 ++ bw qb cI b ++ kw qk qb qr qe qs qu qx qd cI kk ++ lo cL ao o) s.heap.size) (sAd qs ++ bAd qb ++ kAd qk ++ [ao]) := gD_vA (ws := sw qs cI s9 ++ bw qb cI b ++ kw qk qb qr qe qs qu qx qd cI kk ++ lo cL ao o) hDa
  have hS : va_S (va_A (sw qs cI s9 ++ bw qb cI b ++ kw qk qb qr qe qs qu qx qd cI kk ++ lo cL ao o) s.heap.size) s.heap s.heap [] := va_S.rf
  have hPc : va_P (dC, dI) vwCl (sw qs cI s9 ++ bw qb cI b ++ kw qk qb qr qe qs qu qx qd cI kk) s.heap := va_P_pre hP
  refine lv_aload_n hx hb dL_votes_0 rfl (lv_at hl 2 rfl) ?_
  refine lv_iconst (v := 0) hx hb dL_votes_1 (by decide) ?_
  refine lv_aload_n hx hb dL_votes_2 rfl (lv_at hl 0 rfl) ?_
  refine lv_iload_n hx hb dL_votes_3 rfl (lv_at hl 1 rfl) ?_
  refine l_call (w0 := sw qs cI s9 ++ bw qb cI b ++ kw qk qb qr qe qs qu qx qd cI kk) (wo := lo cL ao o) (vx_runV (As := [.int a1]) (rest := [.int 0, .ref ao]) ⟨hx, hb, hml, hown, hts⟩ (mX11_votes l hfl dC dI cI cB cO cL N0 sT eA qs qb qk qr qe qu qx qd s9 b kk a1 s.heap.size hsz (gD_pre hDa) (fun a h => hNa a (List.mem_append_left _ h)) hok) (cwV 1 hts gM_votes rfl rfl rfl (by decide +kernel) ⟨Nat.le_of_ble_eq_true rfl, Nat.le_of_ble_eq_true rfl⟩) ⟨zP_blind, va_recv hK hPc (ci := 8) (q0 := 14) rfl rfl, zP_ok hPc hK hF hS hN⟩ rfl rfl hl.1 rfl (lv_room (Nat.le_of_ble_eq_true rfl)) dL_votes_4 ⟨Nat.le_of_ble_eq_true rfl, Nat.le_of_ble_eq_true rfl⟩) hP (gD_va hD rfl) hS hA (fun hne q9 ce H locs hP hS hce hcv hcl => ?_) (fun h0 H locs hP hS => ?_)
  · have hx1 := hc.resolve_left hne
    have hcl : s.vm.findClass "java/lang/IndexOutOfBoundsException" = some ce.cls := (congrArg (fun z => s.vm.findClass (xN z)) hx1).symm.trans hcl
    refine vx_catch (E := "java/lang/IndexOutOfBoundsException") (name := "java/lang/IndexOutOfBoundsException") hown [] ⟨0, 9, 12, 23⟩ [] htab (fun z hz => absurd hz List.not_mem_nil) rfl (by decide) (hts (.classLink RL 23 "java/lang/IndexOutOfBoundsException") (by decide +kernel)) (hF.2.1.cas _ cas1) hce hcv hcl ?_
    refine lv_astore_n (lv' := [(3, .ref q9), (0, .ref (qk 0)), (1, .int a1), (2, .ref ao)]) hx hb dL_votes_12 rfl hl (by decide) rfl (fun ls hl => ?_)
    refine lv_iconst (v := 1) hx hb dL_votes_13 (by decide) ?_
    exact e_L C0 (lF_1 hne hx1) hP hS rfl rfl dL_votes_14
  · refine lv_i2l hx hb dL_votes_7 rfl ?_
    refine va_last (D := (dC, dI)) (tys := tYS cI cB cO cL) hx hb hK hP (gD_va hD rfl) hS 15 3 rfl rfl (vp_in_n (i := 0) (by omega) (by omega)) dL_votes_8 (fun H locs hP hD hS => ?_)
    refine lv_goto (tgt := 15) hx hb dL_votes_9 (by decide) ?_
    refine lv_iconst (v := 0) hx hb dL_votes_15 (by decide) ?_
    exact e_L C0 (lF_0 h0) hP hS rfl rfl dL_votes_16
abbrev rL_error : Room := { frames := 9, cells := 4, slots := 24, locals := 169 }
set_option maxHeartbeats 4000000 in
set_option maxRecDepth 100000 in
theorem mL_error (l : Launch) (hfl : l.stackTraces = false) (dC : Nat → ClassId) (dI : Nat → Nat → Nat) (cI cB cO cL : ClassId) (N0 : Nat) (sT eA : Nat → Nat) (qs : Nat → Nat) (qb : Nat → Nat) (qk : Nat → Nat) (qr : Nat → Nat) (qe : Nat → Nat) (qu : Nat → Nat) (qx : Nat → Nat) (qd : Nat → Nat) (s9 : SS) (b : BS) (kk : Int32) (a1 : Int32) (ao : Nat) (o : Nat → Int64) (sz : Nat) (hsz : N0 ≤ sz) (hDa : gD (fun _ => True) (sAd qs ++ bAd qb ++ kAd qk ++ [ao])) (hNa : ∀ a ∈ (sAd qs ++ bAd qb ++ kAd qk ++ [ao] : List Nat), N0 ≤ a) (hok : kX11_error s9 b kk a1) (hc : (pX11_error s9 b kk a1).1 = 0 ∨ (pX11_error s9 b kk a1).1 = 1) : Met l yL_error wsM_error rL_error (lP N0 sz sT eA (dC, dI) (tYS cI cB cO cL) (sw qs cI s9 ++ bw qb cI b ++ kw qk qb qr qe qs qu qx qd cI kk ++ lo cL ao o) [.ref (qk 0), .int a1, .ref ao]) (lQ (dC, dI) (fun z9 : SS × BS × Int32 => sw qs cI z9.1 ++ bw qb cI z9.2.1 ++ kw qk qb qr qe qs qu qx qd cI z9.2.2) cL ao (va_A (sw qs cI s9 ++ bw qb cI b ++ kw qk qb qr qe qs qu qx qd cI kk ++ lo cL ao o) sz) 1 (pX11_error s9 b kk a1) o) 4 24 (va_A (sw qs cI s9 ++ bw qb cI b ++ kw qk qb qr qe qs qu qx qd cI kk ++ lo cL ao o) sz) := by
  refine lMet (cc := cL_error) (maxL := 4) (ret := some .int) (hh := [(0, 9, 12, 23)]) [(0, .ref (qk 0)), (1, .int a1), (2, .ref ao)] (by decide) rfl rfl rfl ?_
  intro p e s mi below meth c C0 htab hz hK hF hC hP ls hl
  obtain ⟨hx, hb, hr, hml, hown, hts, hlocks⟩ := id C0
  have hown : s.vm.findClass RL = some mi.cls := hown
  have htab : c.exceptionTable.toList = [⟨0, 9, 12, 23⟩] := htab
  subst hz
  have hA : ∀ q : Nat, s.heap.size ≤ q → (va_A (sw qs cI s9 ++ bw qb cI b ++ kw qk qb qr qe qs qu qx qd cI kk ++ lo cL ao o) s.heap.size) q := fun q h => Or.inr h
  have hN : ∀ q : Nat, (va_A (sw qs cI s9 ++ bw qb cI b ++ kw qk qb qr qe qs qu qx qd cI kk ++ lo cL ao o) s.heap.size) q → N0 ≤ q := vA_N (ws := sw qs cI s9 ++ bw qb cI b ++ kw qk qb qr qe qs qu qx qd cI kk ++ lo cL ao o) hNa hsz
  have hD : gD (va_A (sw qs cI s9 ++ bw qb cI b ++ kw qk qb qr qe qs qu qx qd cI kk ++ lo cL ao o) s.heap.size) (sAd qs ++ bAd qb ++ kAd qk ++ [ao]) := gD_vA (ws := sw qs cI s9 ++ bw qb cI b ++ kw qk qb qr qe qs qu qx qd cI kk ++ lo cL ao o) hDa
  have hS : va_S (va_A (sw qs cI s9 ++ bw qb cI b ++ kw qk qb qr qe qs qu qx qd cI kk ++ lo cL ao o) s.heap.size) s.heap s.heap [] := va_S.rf
  have hPc : va_P (dC, dI) vwCl (sw qs cI s9 ++ bw qb cI b ++ kw qk qb qr qe qs qu qx qd cI kk) s.heap := va_P_pre hP
  refine lv_aload_n hx hb dL_error_0 rfl (lv_at hl 2 rfl) ?_
  refine lv_iconst (v := 0) hx hb dL_error_1 (by decide) ?_
  refine lv_aload_n hx hb dL_error_2 rfl (lv_at hl 0 rfl) ?_
  refine lv_iload_n hx hb dL_error_3 rfl (lv_at hl 1 rfl) ?_
  refine l_call (w0 := sw qs cI s9 ++ bw qb cI b ++ kw qk qb qr qe qs qu qx qd cI kk) (wo := lo cL ao o) (vx_runV (As := [.int a1]) (rest := [.int 0, .ref ao]) ⟨hx, hb, hml, hown, hts⟩ (mX11_error l hfl dC dI cI cB cO cL N0 sT eA qs qb qk qr qe qu qx qd s9 b kk a1 s.heap.size hsz (gD_pre hDa) (fun a h => hNa a (List.mem_append_left _ h)) hok) (cwV 1 hts gM_error rfl rfl rfl (by decide +kernel) ⟨Nat.le_of_ble_eq_true rfl, Nat.le_of_ble_eq_true rfl⟩) ⟨zP_blind, va_recv hK hPc (ci := 8) (q0 := 14) rfl rfl, zP_ok hPc hK hF hS hN⟩ rfl rfl hl.1 rfl (lv_room (Nat.le_of_ble_eq_true rfl)) dL_error_4 ⟨Nat.le_of_ble_eq_true rfl, Nat.le_of_ble_eq_true rfl⟩) hP (gD_va hD rfl) hS hA (fun hne q9 ce H locs hP hS hce hcv hcl => ?_) (fun h0 H locs hP hS => ?_)
  · have hx1 := hc.resolve_left hne
    have hcl : s.vm.findClass "java/lang/IndexOutOfBoundsException" = some ce.cls := (congrArg (fun z => s.vm.findClass (xN z)) hx1).symm.trans hcl
    refine vx_catch (E := "java/lang/IndexOutOfBoundsException") (name := "java/lang/IndexOutOfBoundsException") hown [] ⟨0, 9, 12, 23⟩ [] htab (fun z hz => absurd hz List.not_mem_nil) rfl (by decide) (hts (.classLink RL 23 "java/lang/IndexOutOfBoundsException") (by decide +kernel)) (hF.2.1.cas _ cas1) hce hcv hcl ?_
    refine lv_astore_n (lv' := [(3, .ref q9), (0, .ref (qk 0)), (1, .int a1), (2, .ref ao)]) hx hb dL_error_12 rfl hl (by decide) rfl (fun ls hl => ?_)
    refine lv_iconst (v := 1) hx hb dL_error_13 (by decide) ?_
    exact e_L C0 (lF_1 hne hx1) hP hS rfl rfl dL_error_14
  · refine lv_i2l hx hb dL_error_7 rfl ?_
    refine va_last (D := (dC, dI)) (tys := tYS cI cB cO cL) hx hb hK hP (gD_va hD rfl) hS 15 3 rfl rfl (vp_in_n (i := 0) (by omega) (by omega)) dL_error_8 (fun H locs hP hD hS => ?_)
    refine lv_goto (tgt := 15) hx hb dL_error_9 (by decide) ?_
    refine lv_iconst (v := 0) hx hb dL_error_15 (by decide) ?_
    exact e_L C0 (lF_0 h0) hP hS rfl rfl dL_error_16
abbrev rL_blame : Room := { frames := 9, cells := 4, slots := 24, locals := 169 }
set_option maxHeartbeats 4000000 in
set_option maxRecDepth 100000 in
theorem mL_blame (l : Launch) (hfl : l.stackTraces = false) (dC : Nat → ClassId) (dI : Nat → Nat → Nat) (cI cB cO cL : ClassId) (N0 : Nat) (sT eA : Nat → Nat) (qs : Nat → Nat) (qb : Nat → Nat) (qk : Nat → Nat) (qr : Nat → Nat) (qe : Nat → Nat) (qu : Nat → Nat) (qx : Nat → Nat) (qd : Nat → Nat) (s9 : SS) (b : BS) (kk : Int32) (a1 : Int32) (ao : Nat) (o : Nat → Int64) (sz : Nat) (hsz : N0 ≤ sz) (hDa : gD (fun _ => True) (sAd qs ++ bAd qb ++ kAd qk ++ [ao])) (hNa : ∀ a ∈ (sAd qs ++ bAd qb ++ kAd qk ++ [ao] : List Nat), N0 ≤ a) (hok : kX11_blame s9 b kk a1) (hc : (pX11_blame s9 b kk a1).1 = 0 ∨ (pX11_blame s9 b kk a1).1 = 1) : Met l yL_blame wsM_blame rL_blame (lP N0 sz sT eA (dC, dI) (tYS cI cB cO cL) (sw qs cI s9 ++ bw qb cI b ++ kw qk qb qr qe qs qu qx qd cI kk ++ lo cL ao o) [.ref (qk 0), .int a1, .ref ao]) (lQ (dC, dI) (fun z9 : SS × BS × Int32 => sw qs cI z9.1 ++ bw qb cI z9.2.1 ++ kw qk qb qr qe qs qu qx qd cI z9.2.2) cL ao (va_A (sw qs cI s9 ++ bw qb cI b ++ kw qk qb qr qe qs qu qx qd cI kk ++ lo cL ao o) sz) 1 (pX11_blame s9 b kk a1) o) 4 24 (va_A (sw qs cI s9 ++ bw qb cI b ++ kw qk qb qr qe qs qu qx qd cI kk ++ lo cL ao o) sz) := by
  refine lMet (cc := cL_blame) (maxL := 4) (ret := some .int) (hh := [(0, 9, 12, 23)]) [(0, .ref (qk 0)), (1, .int a1), (2, .ref ao)] (by decide) rfl rfl rfl ?_
  intro p e s mi below meth c C0 htab hz hK hF hC hP ls hl
  obtain ⟨hx, hb, hr, hml, hown, hts, hlocks⟩ := id C0
  have hown : s.vm.findClass RL = some mi.cls := hown
  have htab : c.exceptionTable.toList = [⟨0, 9, 12, 23⟩] := htab
  subst hz
  have hA : ∀ q : Nat, s.heap.size ≤ q → (va_A (sw qs cI s9 ++ bw qb cI b ++ kw qk qb qr qe qs qu qx qd cI kk ++ lo cL ao o) s.heap.size) q := fun q h => Or.inr h
  have hN : ∀ q : Nat, (va_A (sw qs cI s9 ++ bw qb cI b ++ kw qk qb qr qe qs qu qx qd cI kk ++ lo cL ao o) s.heap.size) q → N0 ≤ q := vA_N (ws := sw qs cI s9 ++ bw qb cI b ++ kw qk qb qr qe qs qu qx qd cI kk ++ lo cL ao o) hNa hsz
  have hD : gD (va_A (sw qs cI s9 ++ bw qb cI b ++ kw qk qb qr qe qs qu qx qd cI kk ++ lo cL ao o) s.heap.size) (sAd qs ++ bAd qb ++ kAd qk ++ [ao]) := gD_vA (ws := sw qs cI s9 ++ bw qb cI b ++ kw qk qb qr qe qs qu qx qd cI kk ++ lo cL ao o) hDa
  have hS : va_S (va_A (sw qs cI s9 ++ bw qb cI b ++ kw qk qb qr qe qs qu qx qd cI kk ++ lo cL ao o) s.heap.size) s.heap s.heap [] := va_S.rf
  have hPc : va_P (dC, dI) vwCl (sw qs cI s9 ++ bw qb cI b ++ kw qk qb qr qe qs qu qx qd cI kk) s.heap := va_P_pre hP
  refine lv_aload_n hx hb dL_blame_0 rfl (lv_at hl 2 rfl) ?_
  refine lv_iconst (v := 0) hx hb dL_blame_1 (by decide) ?_
  refine lv_aload_n hx hb dL_blame_2 rfl (lv_at hl 0 rfl) ?_
  refine lv_iload_n hx hb dL_blame_3 rfl (lv_at hl 1 rfl) ?_
  refine l_call (w0 := sw qs cI s9 ++ bw qb cI b ++ kw qk qb qr qe qs qu qx qd cI kk) (wo := lo cL ao o) (vx_runV (As := [.int a1]) (rest := [.int 0, .ref ao]) ⟨hx, hb, hml, hown, hts⟩ (mX11_blame l hfl dC dI cI cB cO cL N0 sT eA qs qb qk qr qe qu qx qd s9 b kk a1 s.heap.size hsz (gD_pre hDa) (fun a h => hNa a (List.mem_append_left _ h)) hok) (cwV 1 hts gM_blame rfl rfl rfl (by decide +kernel) ⟨Nat.le_of_ble_eq_true rfl, Nat.le_of_ble_eq_true rfl⟩) ⟨zP_blind, va_recv hK hPc (ci := 8) (q0 := 14) rfl rfl, zP_ok hPc hK hF hS hN⟩ rfl rfl hl.1 rfl (lv_room (Nat.le_of_ble_eq_true rfl)) dL_blame_4 ⟨Nat.le_of_ble_eq_true rfl, Nat.le_of_ble_eq_true rfl⟩) hP (gD_va hD rfl) hS hA (fun hne q9 ce H locs hP hS hce hcv hcl => ?_) (fun h0 H locs hP hS => ?_)
  · have hx1 := hc.resolve_left hne
    have hcl : s.vm.findClass "java/lang/IndexOutOfBoundsException" = some ce.cls := (congrArg (fun z => s.vm.findClass (xN z)) hx1).symm.trans hcl
    refine vx_catch (E := "java/lang/IndexOutOfBoundsException") (name := "java/lang/IndexOutOfBoundsException") hown [] ⟨0, 9, 12, 23⟩ [] htab (fun z hz => absurd hz List.not_mem_nil) rfl (by decide) (hts (.classLink RL 23 "java/lang/IndexOutOfBoundsException") (by decide +kernel)) (hF.2.1.cas _ cas1) hce hcv hcl ?_
    refine lv_astore_n (lv' := [(3, .ref q9), (0, .ref (qk 0)), (1, .int a1), (2, .ref ao)]) hx hb dL_blame_12 rfl hl (by decide) rfl (fun ls hl => ?_)
    refine lv_iconst (v := 1) hx hb dL_blame_13 (by decide) ?_
    exact e_L C0 (lF_1 hne hx1) hP hS rfl rfl dL_blame_14
  · refine lv_i2l hx hb dL_blame_7 rfl ?_
    refine va_last (D := (dC, dI)) (tys := tYS cI cB cO cL) hx hb hK hP (gD_va hD rfl) hS 15 3 rfl rfl (vp_in_n (i := 0) (by omega) (by omega)) dL_blame_8 (fun H locs hP hD hS => ?_)
    refine lv_goto (tgt := 15) hx hb dL_blame_9 (by decide) ?_
    refine lv_iconst (v := 0) hx hb dL_blame_15 (by decide) ?_
    exact e_L C0 (lF_0 h0) hP hS rfl rfl dL_blame_16
abbrev rL_foundWithout : Room := { frames := 9, cells := 4, slots := 24, locals := 169 }
set_option maxHeartbeats 4000000 in
set_option maxRecDepth 100000 in
theorem mL_foundWithout (l : Launch) (hfl : l.stackTraces = false) (dC : Nat → ClassId) (dI : Nat → Nat → Nat) (cI cB cO cL : ClassId) (N0 : Nat) (sT eA : Nat → Nat) (qs : Nat → Nat) (qb : Nat → Nat) (qk : Nat → Nat) (qr : Nat → Nat) (qe : Nat → Nat) (qu : Nat → Nat) (qx : Nat → Nat) (qd : Nat → Nat) (s9 : SS) (b : BS) (kk : Int32) (a1 : Int32) (ao : Nat) (o : Nat → Int64) (sz : Nat) (hsz : N0 ≤ sz) (hDa : gD (fun _ => True) (sAd qs ++ bAd qb ++ kAd qk ++ [ao])) (hNa : ∀ a ∈ (sAd qs ++ bAd qb ++ kAd qk ++ [ao] : List Nat), N0 ≤ a) (hok : kX11_foundWithout s9 b kk a1) (hc : (pX11_foundWithout s9 b kk a1).1 = 0 ∨ (pX11_foundWithout s9 b kk a1).1 = 1) : Met l yL_foundWithout wsM_foundWithout rL_foundWithout (lP N0 sz sT eA (dC, dI) (tYS cI cB cO cL) (sw qs cI s9 ++ bw qb cI b ++ kw qk qb qr qe qs qu qx qd cI kk ++ lo cL ao o) [.ref (qk 0), .int a1, .ref ao]) (lQ (dC, dI) (fun z9 : SS × BS × Int32 => sw qs cI z9.1 ++ bw qb cI z9.2.1 ++ kw qk qb qr qe qs qu qx qd cI z9.2.2) cL ao (va_A (sw qs cI s9 ++ bw qb cI b ++ kw qk qb qr qe qs qu qx qd cI kk ++ lo cL ao o) sz) 1 (pX11_foundWithout s9 b kk a1) o) 4 24 (va_A (sw qs cI s9 ++ bw qb cI b ++ kw qk qb qr qe qs qu qx qd cI kk ++ lo cL ao o) sz) := by
  refine lMet (cc := cL_foundWithout) (maxL := 4) (ret := some .int) (hh := [(0, 9, 12, 23)]) [(0, .ref (qk 0)), (1, .int a1), (2, .ref ao)] (by decide) rfl rfl rfl ?_
  intro p e s mi below meth c C0 htab hz hK hF hC hP ls hl
  obtain ⟨hx, hb, hr, hml, hown, hts, hlocks⟩ := id C0
  have hown : s.vm.findClass RL = some mi.cls := hown
  have htab : c.exceptionTable.toList = [⟨0, 9, 12, 23⟩] := htab
  subst hz
  have hA : ∀ q : Nat, s.heap.size ≤ q → (va_A (sw qs cI s9 ++ bw qb cI b ++ kw qk qb qr qe qs qu qx qd cI kk ++ lo cL ao o) s.heap.size) q := fun q h => Or.inr h
  have hN : ∀ q : Nat, (va_A (sw qs cI s9 ++ bw qb cI b ++ kw qk qb qr qe qs qu qx qd cI kk ++ lo cL ao o) s.heap.size) q → N0 ≤ q := vA_N (ws := sw qs cI s9 ++ bw qb cI b ++ kw qk qb qr qe qs qu qx qd cI kk ++ lo cL ao o) hNa hsz
  have hD : gD (va_A (sw qs cI s9 ++ bw qb cI b ++ kw qk qb qr qe qs qu qx qd cI kk ++ lo cL ao o) s.heap.size) (sAd qs ++ bAd qb ++ kAd qk ++ [ao]) := gD_vA (ws := sw qs cI s9 ++ bw qb cI b ++ kw qk qb qr qe qs qu qx qd cI kk ++ lo cL ao o) hDa
  have hS : va_S (va_A (sw qs cI s9 ++ bw qb cI b ++ kw qk qb qr qe qs qu qx qd cI kk ++ lo cL ao o) s.heap.size) s.heap s.heap [] := va_S.rf
  have hPc : va_P (dC, dI) vwCl (sw qs cI s9 ++ bw qb cI b ++ kw qk qb qr qe qs qu qx qd cI kk) s.heap := va_P_pre hP
  refine lv_aload_n hx hb dL_foundWithout_0 rfl (lv_at hl 2 rfl) ?_
  refine lv_iconst (v := 0) hx hb dL_foundWithout_1 (by decide) ?_
  refine lv_aload_n hx hb dL_foundWithout_2 rfl (lv_at hl 0 rfl) ?_
  refine lv_iload_n hx hb dL_foundWithout_3 rfl (lv_at hl 1 rfl) ?_
  refine l_call (w0 := sw qs cI s9 ++ bw qb cI b ++ kw qk qb qr qe qs qu qx qd cI kk) (wo := lo cL ao o) (vx_runV (As := [.int a1]) (rest := [.int 0, .ref ao]) ⟨hx, hb, hml, hown, hts⟩ (mX11_foundWithout l hfl dC dI cI cB cO cL N0 sT eA qs qb qk qr qe qu qx qd s9 b kk a1 s.heap.size hsz (gD_pre hDa) (fun a h => hNa a (List.mem_append_left _ h)) hok) (cwV 1 hts gM_foundWithout rfl rfl rfl (by decide +kernel) ⟨Nat.le_of_ble_eq_true rfl, Nat.le_of_ble_eq_true rfl⟩) ⟨zP_blind, va_recv hK hPc (ci := 8) (q0 := 14) rfl rfl, zP_ok hPc hK hF hS hN⟩ rfl rfl hl.1 rfl (lv_room (Nat.le_of_ble_eq_true rfl)) dL_foundWithout_4 ⟨Nat.le_of_ble_eq_true rfl, Nat.le_of_ble_eq_true rfl⟩) hP (gD_va hD rfl) hS hA (fun hne q9 ce H locs hP hS hce hcv hcl => ?_) (fun h0 H locs hP hS => ?_)
  · have hx1 := hc.resolve_left hne
    have hcl : s.vm.findClass "java/lang/IndexOutOfBoundsException" = some ce.cls := (congrArg (fun z => s.vm.findClass (xN z)) hx1).symm.trans hcl
    refine vx_catch (E := "java/lang/IndexOutOfBoundsException") (name := "java/lang/IndexOutOfBoundsException") hown [] ⟨0, 9, 12, 23⟩ [] htab (fun z hz => absurd hz List.not_mem_nil) rfl (by decide) (hts (.classLink RL 23 "java/lang/IndexOutOfBoundsException") (by decide +kernel)) (hF.2.1.cas _ cas1) hce hcv hcl ?_
    refine lv_astore_n (lv' := [(3, .ref q9), (0, .ref (qk 0)), (1, .int a1), (2, .ref ao)]) hx hb dL_foundWithout_12 rfl hl (by decide) rfl (fun ls hl => ?_)
    refine lv_iconst (v := 1) hx hb dL_foundWithout_13 (by decide) ?_
    exact e_L C0 (lF_1 hne hx1) hP hS rfl rfl dL_foundWithout_14
  · refine lv_i2l hx hb dL_foundWithout_7 rfl ?_
    refine va_last (D := (dC, dI)) (tys := tYS cI cB cO cL) hx hb hK hP (gD_va hD rfl) hS 15 3 rfl rfl (vp_in_n (i := 0) (by omega) (by omega)) dL_foundWithout_8 (fun H locs hP hD hS => ?_)
    refine lv_goto (tgt := 15) hx hb dL_foundWithout_9 (by decide) ?_
    refine lv_iconst (v := 0) hx hb dL_foundWithout_15 (by decide) ?_
    exact e_L C0 (lF_0 h0) hP hS rfl rfl dL_foundWithout_16
abbrev rL_whole : Room := { frames := 9, cells := 4, slots := 24, locals := 169 }
set_option maxHeartbeats 4000000 in
set_option maxRecDepth 100000 in
theorem mL_whole (l : Launch) (hfl : l.stackTraces = false) (dC : Nat → ClassId) (dI : Nat → Nat → Nat) (cI cB cO cL : ClassId) (N0 : Nat) (sT eA : Nat → Nat) (qs : Nat → Nat) (qb : Nat → Nat) (qk : Nat → Nat) (qr : Nat → Nat) (qe : Nat → Nat) (qu : Nat → Nat) (qx : Nat → Nat) (qd : Nat → Nat) (s9 : SS) (b : BS) (kk : Int32) (a1 : Int32) (ao : Nat) (o : Nat → Int64) (sz : Nat) (hsz : N0 ≤ sz) (hDa : gD (fun _ => True) (sAd qs ++ bAd qb ++ kAd qk ++ [ao])) (hNa : ∀ a ∈ (sAd qs ++ bAd qb ++ kAd qk ++ [ao] : List Nat), N0 ≤ a) (hok : kX11_whole s9 b kk a1) (hc : (pX11_whole s9 b kk a1).1 = 0 ∨ (pX11_whole s9 b kk a1).1 = 2) : Met l yL_whole wsM_whole rL_whole (lP N0 sz sT eA (dC, dI) (tYS cI cB cO cL) (sw qs cI s9 ++ bw qb cI b ++ kw qk qb qr qe qs qu qx qd cI kk ++ lo cL ao o) [.ref (qk 0), .int a1, .ref ao]) (lQ (dC, dI) (fun z9 : SS × BS × Int32 => sw qs cI z9.1 ++ bw qb cI z9.2.1 ++ kw qk qb qr qe qs qu qx qd cI z9.2.2) cL ao (va_A (sw qs cI s9 ++ bw qb cI b ++ kw qk qb qr qe qs qu qx qd cI kk ++ lo cL ao o) sz) 2 (pX11_whole s9 b kk a1) o) 4 24 (va_A (sw qs cI s9 ++ bw qb cI b ++ kw qk qb qr qe qs qu qx qd cI kk ++ lo cL ao o) sz) := by
  refine lMet (cc := cL_whole) (maxL := 4) (ret := some .int) (hh := [(0, 9, 12, 13)]) [(0, .ref (qk 0)), (1, .int a1), (2, .ref ao)] (by decide) rfl rfl rfl ?_
  intro p e s mi below meth c C0 htab hz hK hF hC hP ls hl
  obtain ⟨hx, hb, hr, hml, hown, hts, hlocks⟩ := id C0
  have hown : s.vm.findClass RL = some mi.cls := hown
  have htab : c.exceptionTable.toList = [⟨0, 9, 12, 13⟩] := htab
  subst hz
  have hA : ∀ q : Nat, s.heap.size ≤ q → (va_A (sw qs cI s9 ++ bw qb cI b ++ kw qk qb qr qe qs qu qx qd cI kk ++ lo cL ao o) s.heap.size) q := fun q h => Or.inr h
  have hN : ∀ q : Nat, (va_A (sw qs cI s9 ++ bw qb cI b ++ kw qk qb qr qe qs qu qx qd cI kk ++ lo cL ao o) s.heap.size) q → N0 ≤ q := vA_N (ws := sw qs cI s9 ++ bw qb cI b ++ kw qk qb qr qe qs qu qx qd cI kk ++ lo cL ao o) hNa hsz
  have hD : gD (va_A (sw qs cI s9 ++ bw qb cI b ++ kw qk qb qr qe qs qu qx qd cI kk ++ lo cL ao o) s.heap.size) (sAd qs ++ bAd qb ++ kAd qk ++ [ao]) := gD_vA (ws := sw qs cI s9 ++ bw qb cI b ++ kw qk qb qr qe qs qu qx qd cI kk ++ lo cL ao o) hDa
  have hS : va_S (va_A (sw qs cI s9 ++ bw qb cI b ++ kw qk qb qr qe qs qu qx qd cI kk ++ lo cL ao o) s.heap.size) s.heap s.heap [] := va_S.rf
  have hPc : va_P (dC, dI) vwCl (sw qs cI s9 ++ bw qb cI b ++ kw qk qb qr qe qs qu qx qd cI kk) s.heap := va_P_pre hP
  refine lv_aload_n hx hb dL_whole_0 rfl (lv_at hl 2 rfl) ?_
  refine lv_iconst (v := 0) hx hb dL_whole_1 (by decide) ?_
  refine lv_aload_n hx hb dL_whole_2 rfl (lv_at hl 0 rfl) ?_
  refine lv_iload_n hx hb dL_whole_3 rfl (lv_at hl 1 rfl) ?_
  refine l_call (w0 := sw qs cI s9 ++ bw qb cI b ++ kw qk qb qr qe qs qu qx qd cI kk) (wo := lo cL ao o) (vx_runV (As := [.int a1]) (rest := [.int 0, .ref ao]) ⟨hx, hb, hml, hown, hts⟩ (mX11_whole l hfl dC dI cI cB cO cL N0 sT eA qs qb qk qr qe qu qx qd s9 b kk a1 s.heap.size hsz (gD_pre hDa) (fun a h => hNa a (List.mem_append_left _ h)) hok) (cwV 1 hts gM_whole rfl rfl rfl (by decide +kernel) ⟨Nat.le_of_ble_eq_true rfl, Nat.le_of_ble_eq_true rfl⟩) ⟨zP_blind, va_recv hK hPc (ci := 8) (q0 := 14) rfl rfl, zP_ok hPc hK hF hS hN⟩ rfl rfl hl.1 rfl (lv_room (Nat.le_of_ble_eq_true rfl)) dL_whole_4 ⟨Nat.le_of_ble_eq_true rfl, Nat.le_of_ble_eq_true rfl⟩) hP (gD_va hD rfl) hS hA (fun hne q9 ce H locs hP hS hce hcv hcl => ?_) (fun h0 H locs hP hS => ?_)
  · have hx2 := hc.resolve_left hne
    have hcl : s.vm.findClass "java/lang/IllegalArgumentException" = some ce.cls := (congrArg (fun z => s.vm.findClass (xN z)) hx2).symm.trans hcl
    refine vx_catch (E := "java/lang/IllegalArgumentException") (name := "java/lang/IllegalArgumentException") hown [] ⟨0, 9, 12, 13⟩ [] htab (fun z hz => absurd hz List.not_mem_nil) rfl (by decide) (hts (.classLink RL 13 "java/lang/IllegalArgumentException") (by decide +kernel)) (hF.2.1.cas _ cas2) hce hcv hcl ?_
    refine lv_astore_n (lv' := [(3, .ref q9), (0, .ref (qk 0)), (1, .int a1), (2, .ref ao)]) hx hb dL_whole_12 rfl hl (by decide) rfl (fun ls hl => ?_)
    refine lv_iconst (v := 1) hx hb dL_whole_13 (by decide) ?_
    exact e_L C0 (lF_1 hne hx2) hP hS rfl rfl dL_whole_14
  · refine lv_i2l hx hb dL_whole_7 rfl ?_
    refine va_last (D := (dC, dI)) (tys := tYS cI cB cO cL) hx hb hK hP (gD_va hD rfl) hS 15 3 rfl rfl (vp_in_n (i := 0) (by omega) (by omega)) dL_whole_8 (fun H locs hP hD hS => ?_)
    refine lv_goto (tgt := 15) hx hb dL_whole_9 (by decide) ?_
    refine lv_iconst (v := 0) hx hb dL_whole_15 (by decide) ?_
    exact e_L C0 (lF_0 h0) hP hS rfl rfl dL_whole_16
abbrev rL_part : Room := { frames := 9, cells := 4, slots := 24, locals := 156 }
set_option maxHeartbeats 4000000 in
set_option maxRecDepth 100000 in
theorem mL_part (l : Launch) (hfl : l.stackTraces = false) (dC : Nat → ClassId) (dI : Nat → Nat → Nat) (cI cB cO cL : ClassId) (N0 : Nat) (sT eA : Nat → Nat) (qb : Nat → Nat) (qk : Nat → Nat) (qr : Nat → Nat) (qe : Nat → Nat) (qs : Nat → Nat) (qu : Nat → Nat) (qx : Nat → Nat) (qd : Nat → Nat) (b : BS) (kk : Int32) (a1 : Int32) (a2 : Int32) (a3 : Int32) (ao : Nat) (o : Nat → Int64) (sz : Nat) (hsz : N0 ≤ sz) (hDa : gD (fun _ => True) (bAd qb ++ kAd qk ++ [ao])) (hNa : ∀ a ∈ (bAd qb ++ kAd qk ++ [ao] : List Nat), N0 ≤ a) (hok : kX11_part b kk a1 a2 a3) (hc : (pX11_part b kk a1 a2 a3).1 = 0 ∨ (pX11_part b kk a1 a2 a3).1 = 2 ∨ (pX11_part b kk a1 a2 a3).1 = 1) : Met l yL_part wsM_part rL_part (lP N0 sz sT eA (dC, dI) (tYS cI cB cO cL) (bw qb cI b ++ kw qk qb qr qe qs qu qx qd cI kk ++ lo cL ao o) [.ref (qk 0), .int a1, .int a2, .int a3, .ref ao]) (lQ (dC, dI) (fun z9 : BS × Int32 => bw qb cI z9.1 ++ kw qk qb qr qe qs qu qx qd cI z9.2) cL ao (va_A (bw qb cI b ++ kw qk qb qr qe qs qu qx qd cI kk ++ lo cL ao o) sz) 2 (pX11_part b kk a1 a2 a3) o) 4 24 (va_A (bw qb cI b ++ kw qk qb qr qe qs qu qx qd cI kk ++ lo cL ao o) sz) := by
  refine lMet (cc := cL_part) (maxL := 6) (ret := some .int) (hh := [(0, 12, 15, 13), (0, 12, 19, 23)]) [(0, .ref (qk 0)), (1, .int a1), (2, .int a2), (3, .int a3), (4, .ref ao)] (by decide) rfl rfl rfl ?_
  intro p e s mi below meth c C0 htab hz hK hF hC hP ls hl
  obtain ⟨hx, hb, hr, hml, hown, hts, hlocks⟩ := id C0
  have hown : s.vm.findClass RL = some mi.cls := hown
  have htab : c.exceptionTable.toList = [⟨0, 12, 15, 13⟩, ⟨0, 12, 19, 23⟩] := htab
  subst hz
  have hA : ∀ q : Nat, s.heap.size ≤ q → (va_A (bw qb cI b ++ kw qk qb qr qe qs qu qx qd cI kk ++ lo cL ao o) s.heap.size) q := fun q h => Or.inr h
  have hN : ∀ q : Nat, (va_A (bw qb cI b ++ kw qk qb qr qe qs qu qx qd cI kk ++ lo cL ao o) s.heap.size) q → N0 ≤ q := vA_N (ws := bw qb cI b ++ kw qk qb qr qe qs qu qx qd cI kk ++ lo cL ao o) hNa hsz
  have hD : gD (va_A (bw qb cI b ++ kw qk qb qr qe qs qu qx qd cI kk ++ lo cL ao o) s.heap.size) (bAd qb ++ kAd qk ++ [ao]) := gD_vA (ws := bw qb cI b ++ kw qk qb qr qe qs qu qx qd cI kk ++ lo cL ao o) hDa
  have hS : va_S (va_A (bw qb cI b ++ kw qk qb qr qe qs qu qx qd cI kk ++ lo cL ao o) s.heap.size) s.heap s.heap [] := va_S.rf
  have hPc : va_P (dC, dI) vwCl (bw qb cI b ++ kw qk qb qr qe qs qu qx qd cI kk) s.heap := va_P_pre hP
  refine lv_aload hx hb dL_part_0 (lv_at hl 4 rfl) ?_
  refine lv_iconst (v := 0) hx hb dL_part_2 (by decide) ?_
  refine lv_aload_n hx hb dL_part_3 rfl (lv_at hl 0 rfl) ?_
  refine lv_iload_n hx hb dL_part_4 rfl (lv_at hl 1 rfl) ?_
  refine lv_iload_n hx hb dL_part_5 rfl (lv_at hl 2 rfl) ?_
  refine lv_iload_n hx hb dL_part_6 rfl (lv_at hl 3 rfl) ?_
  refine l_call (w0 := bw qb cI b ++ kw qk qb qr qe qs qu qx qd cI kk) (wo := lo cL ao o) (vx_runV (As := [.int a1, .int a2, .int a3]) (rest := [.int 0, .ref ao]) ⟨hx, hb, hml, hown, hts⟩ (mX11_part l hfl dC dI cI cB cO cL N0 sT eA qb qk qr qe qs qu qx qd b kk a1 a2 a3 s.heap.size hsz (gD_pre hDa) (fun a h => hNa a (List.mem_append_left _ h)) hok) (cwV 3 hts gM_part rfl rfl rfl (by decide +kernel) ⟨Nat.le_of_ble_eq_true rfl, Nat.le_of_ble_eq_true rfl⟩) ⟨zP_blind, va_recv hK hPc (ci := 8) (q0 := 9) rfl rfl, zP_ok hPc hK hF hS hN⟩ rfl rfl hl.1 rfl (lv_room (Nat.le_of_ble_eq_true rfl)) dL_part_7 ⟨Nat.le_of_ble_eq_true rfl, Nat.le_of_ble_eq_true rfl⟩) hP (gD_va hD rfl) hS hA (fun hne q9 ce H locs hP hS hce hcv hcl => ?_) (fun h0 H locs hP hS => ?_)
  · rcases hc.resolve_left hne with hx2 | hx1
    · have hcl : s.vm.findClass "java/lang/IllegalArgumentException" = some ce.cls := (congrArg (fun z => s.vm.findClass (xN z)) hx2).symm.trans hcl
      refine vx_catch (E := "java/lang/IllegalArgumentException") (name := "java/lang/IllegalArgumentException") hown [] ⟨0, 12, 15, 13⟩ [⟨0, 12, 19, 23⟩] htab (fun z hz => absurd hz List.not_mem_nil) rfl (by decide) (hts (.classLink RL 13 "java/lang/IllegalArgumentException") (by decide +kernel)) (hF.2.1.cas _ cas2) hce hcv hcl ?_
      refine lv_astore (lv' := [(5, .ref q9), (0, .ref (qk 0)), (1, .int a1), (2, .int a2), (3, .int a3), (4, .ref ao)]) hx hb dL_part_15 hl (by decide) rfl (fun ls hl => ?_)
      refine lv_iconst (v := 1) hx hb dL_part_17 (by decide) ?_
      exact e_L C0 (lF_1 hne hx2) hP hS rfl rfl dL_part_18
    · have hcl : s.vm.findClass "java/lang/IndexOutOfBoundsException" = some ce.cls := (congrArg (fun z => s.vm.findClass (xN z)) hx1).symm.trans hcl
      refine vx_catch (E := "java/lang/IndexOutOfBoundsException") (name := "java/lang/IndexOutOfBoundsException") hown [⟨0, 12, 15, 13⟩] ⟨0, 12, 19, 23⟩ [] htab (fun z hz => Or.inr (by rw [List.mem_singleton.mp hz]; exact ⟨by decide, "java/lang/IllegalArgumentException", hts (.classLink RL 13 "java/lang/IllegalArgumentException") (by decide +kernel), hC.1⟩)) rfl (by decide) (hts (.classLink RL 23 "java/lang/IndexOutOfBoundsException") (by decide +kernel)) (hF.2.1.cas _ cas1) hce hcv hcl ?_
      refine lv_astore (lv' := [(5, .ref q9), (0, .ref (qk 0)), (1, .int a1), (2, .int a2), (3, .int a3), (4, .ref ao)]) hx hb dL_part_19 hl (by decide) rfl (fun ls hl => ?_)
      refine lv_iconst (v := 2) hx hb dL_part_21 (by decide) ?_
      exact e_L C0 (lF_2 hne (by rw [hx1]; decide)) hP hS rfl rfl dL_part_22
  · refine lv_i2l hx hb dL_part_10 rfl ?_
    refine va_last (D := (dC, dI)) (tys := tYS cI cB cO cL) hx hb hK hP (gD_va hD rfl) hS 10 3 rfl rfl (vp_in_n (i := 0) (by omega) (by omega)) dL_part_11 (fun H locs hP hD hS => ?_)
    refine lv_goto (tgt := 23) hx hb dL_part_12 (by decide) ?_
    refine lv_iconst (v := 0) hx hb dL_part_23 (by decide) ?_
    exact e_L C0 (lF_0 h0) hP hS rfl rfl dL_part_24
abbrev rL_type : Room := { frames := 9, cells := 4, slots := 24, locals := 153 }
set_option maxHeartbeats 4000000 in
set_option maxRecDepth 100000 in
theorem mL_type (l : Launch) (hfl : l.stackTraces = false) (dC : Nat → ClassId) (dI : Nat → Nat → Nat) (cI cB cO cL : ClassId) (N0 : Nat) (sT eA : Nat → Nat) (qx : Nat → Nat) (qk : Nat → Nat) (qb : Nat → Nat) (qr : Nat → Nat) (qe : Nat → Nat) (qs : Nat → Nat) (qu : Nat → Nat) (qd : Nat → Nat) (x : TS) (kk : Int32) (a1 : Int32) (ao : Nat) (o : Nat → Int64) (sz : Nat) (hsz : N0 ≤ sz) (hDa : gD (fun _ => True) (xAd qx ++ kAd qk ++ [ao])) (hNa : ∀ a ∈ (xAd qx ++ kAd qk ++ [ao] : List Nat), N0 ≤ a) (hok : kX11_type x kk a1) (hc : (pX11_type x kk a1).1 = 0 ∨ (pX11_type x kk a1).1 = 2 ∨ (pX11_type x kk a1).1 = 3) : Met l yL_type wsM_type rL_type (lP N0 sz sT eA (dC, dI) (tYS cI cB cO cL) (xw qx cI x ++ kw qk qb qr qe qs qu qx qd cI kk ++ lo cL ao o) [.ref (qk 0), .int a1, .ref ao]) (lQ (dC, dI) (fun z9 : TS × Int32 => xw qx cI z9.1 ++ kw qk qb qr qe qs qu qx qd cI z9.2) cL ao (va_A (xw qx cI x ++ kw qk qb qr qe qs qu qx qd cI kk ++ lo cL ao o) sz) 2 (pX11_type x kk a1) o) 4 24 (va_A (xw qx cI x ++ kw qk qb qr qe qs qu qx qd cI kk ++ lo cL ao o) sz) := by
  refine lMet (cc := cL_type) (maxL := 4) (ret := some .int) (hh := [(0, 9, 12, 13), (0, 9, 15, 18)]) [(0, .ref (qk 0)), (1, .int a1), (2, .ref ao)] (by decide) rfl rfl rfl ?_
  intro p e s mi below meth c C0 htab hz hK hF hC hP ls hl
  obtain ⟨hx, hb, hr, hml, hown, hts, hlocks⟩ := id C0
  have hown : s.vm.findClass RL = some mi.cls := hown
  have htab : c.exceptionTable.toList = [⟨0, 9, 12, 13⟩, ⟨0, 9, 15, 18⟩] := htab
  subst hz
  have hA : ∀ q : Nat, s.heap.size ≤ q → (va_A (xw qx cI x ++ kw qk qb qr qe qs qu qx qd cI kk ++ lo cL ao o) s.heap.size) q := fun q h => Or.inr h
  have hN : ∀ q : Nat, (va_A (xw qx cI x ++ kw qk qb qr qe qs qu qx qd cI kk ++ lo cL ao o) s.heap.size) q → N0 ≤ q := vA_N (ws := xw qx cI x ++ kw qk qb qr qe qs qu qx qd cI kk ++ lo cL ao o) hNa hsz
  have hD : gD (va_A (xw qx cI x ++ kw qk qb qr qe qs qu qx qd cI kk ++ lo cL ao o) s.heap.size) (xAd qx ++ kAd qk ++ [ao]) := gD_vA (ws := xw qx cI x ++ kw qk qb qr qe qs qu qx qd cI kk ++ lo cL ao o) hDa
  have hS : va_S (va_A (xw qx cI x ++ kw qk qb qr qe qs qu qx qd cI kk ++ lo cL ao o) s.heap.size) s.heap s.heap [] := va_S.rf
  have hPc : va_P (dC, dI) vwCl (xw qx cI x ++ kw qk qb qr qe qs qu qx qd cI kk) s.heap := va_P_pre hP
  refine lv_aload_n hx hb dL_type_0 rfl (lv_at hl 2 rfl) ?_
  refine lv_iconst (v := 0) hx hb dL_type_1 (by decide) ?_
  refine lv_aload_n hx hb dL_type_2 rfl (lv_at hl 0 rfl) ?_
  refine lv_iload_n hx hb dL_type_3 rfl (lv_at hl 1 rfl) ?_
  refine l_call (w0 := xw qx cI x ++ kw qk qb qr qe qs qu qx qd cI kk) (wo := lo cL ao o) (vx_runV (As := [.int a1]) (rest := [.int 0, .ref ao]) ⟨hx, hb, hml, hown, hts⟩ (mX11_type l hfl dC dI cI cB cO cL N0 sT eA qx qk qb qr qe qs qu qd x kk a1 s.heap.size hsz (gD_pre hDa) (fun a h => hNa a (List.mem_append_left _ h)) hok) (cwV 1 hts gM_type rfl rfl rfl (by decide +kernel) ⟨Nat.le_of_ble_eq_true rfl, Nat.le_of_ble_eq_true rfl⟩) ⟨zP_blind, va_recv hK hPc (ci := 8) (q0 := 2) rfl rfl, zP_ok hPc hK hF hS hN⟩ rfl rfl hl.1 rfl (lv_room (Nat.le_of_ble_eq_true rfl)) dL_type_4 ⟨Nat.le_of_ble_eq_true rfl, Nat.le_of_ble_eq_true rfl⟩) hP (gD_va hD rfl) hS hA (fun hne q9 ce H locs hP hS hce hcv hcl => ?_) (fun h0 H locs hP hS => ?_)
  · rcases hc.resolve_left hne with hx2 | hx3
    · have hcl : s.vm.findClass "java/lang/IllegalArgumentException" = some ce.cls := (congrArg (fun z => s.vm.findClass (xN z)) hx2).symm.trans hcl
      refine vx_catch (E := "java/lang/IllegalArgumentException") (name := "java/lang/IllegalArgumentException") hown [] ⟨0, 9, 12, 13⟩ [⟨0, 9, 15, 18⟩] htab (fun z hz => absurd hz List.not_mem_nil) rfl (by decide) (hts (.classLink RL 13 "java/lang/IllegalArgumentException") (by decide +kernel)) (hF.2.1.cas _ cas2) hce hcv hcl ?_
      refine lv_astore_n (lv' := [(3, .ref q9), (0, .ref (qk 0)), (1, .int a1), (2, .ref ao)]) hx hb dL_type_12 rfl hl (by decide) rfl (fun ls hl => ?_)
      refine lv_iconst (v := 1) hx hb dL_type_13 (by decide) ?_
      exact e_L C0 (lF_1 hne hx2) hP hS rfl rfl dL_type_14
    · have hcl : s.vm.findClass "java/lang/IllegalStateException" = some ce.cls := (congrArg (fun z => s.vm.findClass (xN z)) hx3).symm.trans hcl
      refine vx_catch (E := "java/lang/IllegalStateException") (name := "java/lang/IllegalStateException") hown [⟨0, 9, 12, 13⟩] ⟨0, 9, 15, 18⟩ [] htab (fun z hz => Or.inr (by rw [List.mem_singleton.mp hz]; exact ⟨by decide, "java/lang/IllegalArgumentException", hts (.classLink RL 13 "java/lang/IllegalArgumentException") (by decide +kernel), hC.2.1⟩)) rfl (by decide) (hts (.classLink RL 18 "java/lang/IllegalStateException") (by decide +kernel)) (hF.2.1.cas _ cas3) hce hcv hcl ?_
      refine lv_astore_n (lv' := [(3, .ref q9), (0, .ref (qk 0)), (1, .int a1), (2, .ref ao)]) hx hb dL_type_15 rfl hl (by decide) rfl (fun ls hl => ?_)
      refine lv_iconst (v := 2) hx hb dL_type_16 (by decide) ?_
      exact e_L C0 (lF_2 hne (by rw [hx3]; decide)) hP hS rfl rfl dL_type_17
  · refine lv_i2l hx hb dL_type_7 rfl ?_
    refine va_last (D := (dC, dI)) (tys := tYS cI cB cO cL) hx hb hK hP (gD_va hD rfl) hS 3 3 rfl rfl (vp_in_n (i := 0) (by omega) (by omega)) dL_type_8 (fun H locs hP hD hS => ?_)
    refine lv_goto (tgt := 18) hx hb dL_type_9 (by decide) ?_
    refine lv_iconst (v := 0) hx hb dL_type_18 (by decide) ?_
    exact e_L C0 (lF_0 h0) hP hS rfl rfl dL_type_19
abbrev rL_undo : Room := { frames := 8, cells := 4, slots := 24, locals := 130 }
set_option maxHeartbeats 4000000 in
set_option maxRecDepth 100000 in
theorem mL_undo (l : Launch) (hfl : l.stackTraces = false) (dC : Nat → ClassId) (dI : Nat → Nat → Nat) (cI cB cO cL : ClassId) (N0 : Nat) (sT eA : Nat → Nat) (qs : Nat → Nat) (qu : Nat → Nat) (qb : Nat → Nat) (qk : Nat → Nat) (qr : Nat → Nat) (qe : Nat → Nat) (qx : Nat → Nat) (qd : Nat → Nat) (s9 : SS) (u : US) (b : BS) (kk : Int32) (ao : Nat) (o : Nat → Int64) (sz : Nat) (hsz : N0 ≤ sz) (hDa : gD (fun _ => True) (sAd qs ++ uAd qu ++ bAd qb ++ kAd qk ++ [ao])) (hNa : ∀ a ∈ (sAd qs ++ uAd qu ++ bAd qb ++ kAd qk ++ [ao] : List Nat), N0 ≤ a) (hok : kX11_undo s9 u b kk) (hc : (pX11_undo s9 u b kk).1 = 0 ∨ (pX11_undo s9 u b kk).1 = 3) : Met l yL_undo wsM_undo rL_undo (lP N0 sz sT eA (dC, dI) (tYS cI cB cO cL) (sw qs cI s9 ++ uw qu cI cB u ++ bw qb cI b ++ kw qk qb qr qe qs qu qx qd cI kk ++ lo cL ao o) [.ref (qk 0), .ref ao]) (lQ (dC, dI) (fun z9 : SS × US × BS × Int32 => sw qs cI z9.1 ++ uw qu cI cB z9.2.1 ++ bw qb cI z9.2.2.1 ++ kw qk qb qr qe qs qu qx qd cI z9.2.2.2) cL ao (va_A (sw qs cI s9 ++ uw qu cI cB u ++ bw qb cI b ++ kw qk qb qr qe qs qu qx qd cI kk ++ lo cL ao o) sz) 3 (pX11_undo s9 u b kk) o) 4 24 (va_A (sw qs cI s9 ++ uw qu cI cB u ++ bw qb cI b ++ kw qk qb qr qe qs qu qx qd cI kk ++ lo cL ao o) sz) := by
  refine lMet (cc := cL_undo) (maxL := 3) (ret := some .int) (hh := [(0, 8, 11, 18)]) [(0, .ref (qk 0)), (1, .ref ao)] (by decide) rfl rfl rfl ?_
  intro p e s mi below meth c C0 htab hz hK hF hC hP ls hl
  obtain ⟨hx, hb, hr, hml, hown, hts, hlocks⟩ := id C0
  have hown : s.vm.findClass RL = some mi.cls := hown
  have htab : c.exceptionTable.toList = [⟨0, 8, 11, 18⟩] := htab
  subst hz
  have hA : ∀ q : Nat, s.heap.size ≤ q → (va_A (sw qs cI s9 ++ uw qu cI cB u ++ bw qb cI b ++ kw qk qb qr qe qs qu qx qd cI kk ++ lo cL ao o) s.heap.size) q := fun q h => Or.inr h
  have hN : ∀ q : Nat, (va_A (sw qs cI s9 ++ uw qu cI cB u ++ bw qb cI b ++ kw qk qb qr qe qs qu qx qd cI kk ++ lo cL ao o) s.heap.size) q → N0 ≤ q := vA_N (ws := sw qs cI s9 ++ uw qu cI cB u ++ bw qb cI b ++ kw qk qb qr qe qs qu qx qd cI kk ++ lo cL ao o) hNa hsz
  have hD : gD (va_A (sw qs cI s9 ++ uw qu cI cB u ++ bw qb cI b ++ kw qk qb qr qe qs qu qx qd cI kk ++ lo cL ao o) s.heap.size) (sAd qs ++ uAd qu ++ bAd qb ++ kAd qk ++ [ao]) := gD_vA (ws := sw qs cI s9 ++ uw qu cI cB u ++ bw qb cI b ++ kw qk qb qr qe qs qu qx qd cI kk ++ lo cL ao o) hDa
  have hS : va_S (va_A (sw qs cI s9 ++ uw qu cI cB u ++ bw qb cI b ++ kw qk qb qr qe qs qu qx qd cI kk ++ lo cL ao o) s.heap.size) s.heap s.heap [] := va_S.rf
  have hPc : va_P (dC, dI) vwCl (sw qs cI s9 ++ uw qu cI cB u ++ bw qb cI b ++ kw qk qb qr qe qs qu qx qd cI kk) s.heap := va_P_pre hP
  refine lv_aload_n hx hb dL_undo_0 rfl (lv_at hl 1 rfl) ?_
  refine lv_iconst (v := 0) hx hb dL_undo_1 (by decide) ?_
  refine lv_aload_n hx hb dL_undo_2 rfl (lv_at hl 0 rfl) ?_
  refine l_call (w0 := sw qs cI s9 ++ uw qu cI cB u ++ bw qb cI b ++ kw qk qb qr qe qs qu qx qd cI kk) (wo := lo cL ao o) (vx_runV (As := []) (rest := [.int 0, .ref ao]) ⟨hx, hb, hml, hown, hts⟩ (mX11_undo l hfl dC dI cI cB cO cL N0 sT eA qs qu qb qk qr qe qx qd s9 u b kk s.heap.size hsz (gD_pre hDa) (fun a h => hNa a (List.mem_append_left _ h)) hok) (cwV 0 hts gM_undo rfl rfl rfl (by decide +kernel) ⟨Nat.le_of_ble_eq_true rfl, Nat.le_of_ble_eq_true rfl⟩) ⟨zP_blind, va_recv hK hPc (ci := 8) (q0 := 52) rfl rfl, zP_ok hPc hK hF hS hN⟩ rfl rfl hl.1 rfl (lv_room (Nat.le_of_ble_eq_true rfl)) dL_undo_3 ⟨Nat.le_of_ble_eq_true rfl, Nat.le_of_ble_eq_true rfl⟩) hP (gD_va hD rfl) hS hA (fun hne q9 ce H locs hP hS hce hcv hcl => ?_) (fun h0 H locs hP hS => ?_)
  · have hx3 := hc.resolve_left hne
    have hcl : s.vm.findClass "java/lang/IllegalStateException" = some ce.cls := (congrArg (fun z => s.vm.findClass (xN z)) hx3).symm.trans hcl
    refine vx_catch (E := "java/lang/IllegalStateException") (name := "java/lang/IllegalStateException") hown [] ⟨0, 8, 11, 18⟩ [] htab (fun z hz => absurd hz List.not_mem_nil) rfl (by decide) (hts (.classLink RL 18 "java/lang/IllegalStateException") (by decide +kernel)) (hF.2.1.cas _ cas3) hce hcv hcl ?_
    refine lv_astore_n (lv' := [(2, .ref q9), (0, .ref (qk 0)), (1, .ref ao)]) hx hb dL_undo_11 rfl hl (by decide) rfl (fun ls hl => ?_)
    refine lv_iconst (v := 1) hx hb dL_undo_12 (by decide) ?_
    exact e_L C0 (lF_1 hne hx3) hP hS rfl rfl dL_undo_13
  · refine lv_i2l hx hb dL_undo_6 rfl ?_
    refine va_last (D := (dC, dI)) (tys := tYS cI cB cO cL) hx hb hK hP (gD_va hD rfl) hS 53 3 rfl rfl (vp_in_n (i := 0) (by omega) (by omega)) dL_undo_7 (fun H locs hP hD hS => ?_)
    refine lv_goto (tgt := 14) hx hb dL_undo_8 (by decide) ?_
    refine lv_iconst (v := 0) hx hb dL_undo_14 (by decide) ?_
    exact e_L C0 (lF_0 h0) hP hS rfl rfl dL_undo_15
end HLP2
