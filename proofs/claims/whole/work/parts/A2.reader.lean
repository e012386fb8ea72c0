noncomputable def pX4_hasAllNumbers_L21 (rd : RS)   : Bool := true
noncomputable def pX4_hasAllNumbers (rd : RS) : Bool := if rd.2.2.2 = none then (pX4_hasAllNumbers_L21 rd) else (if (rd.1 3) < (enN rd.2.2.2) then (false) else (pX4_hasAllNumbers_L21 rd))
def kX4_hasAllNumbers (rd : RS) : Prop := if rd.2.2.2 = none then (True) else (isE rd.2.2.2)
abbrev rX4_hasAllNumbers : Room := { frames := 0, cells := 0, slots := 0, locals := 0 }
set_option maxHeartbeats 4000000 in
set_option maxRecDepth 100000 in
theorem mX4_hasAllNumbers (l : Launch) (dC : Nat → ClassId) (dI : Nat → Nat → Nat) (cI cB cO cL : ClassId) (N0 : Nat) (sT eA : Nat → Nat) (qd : Nat → Nat) (rd : RS) (hok : kX4_hasAllNumbers rd) : Met l yX4_hasAllNumbers wsX4_hasAllNumbers rX4_hasAllNumbers (fP N0 sT eA (dC, dI) (tYS cI cB cO cL) (dw qd cI cO eA rd) [.ref (qd 0)]) (gRz (pX4_hasAllNumbers rd)) 0 0 (fun _ => False) := by
  refine fMet (cc := cX4_hasAllNumbers) (maxL := 1) (ret := some .boolean) [(0, .ref (qd 0))] (by decide) rfl rfl rfl ?_
  intro p e s mi below meth c C0 hK hF hP ls hl
  obtain ⟨hx, hb, hr, hml, hown, hts, hlocks⟩ := id C0
  have hown : s.vm.findClass RX4 = some mi.cls := hown
  have hE := hF.1
  have hN : ∀ q : Nat, (fun _ : Nat => False) q → N0 ≤ q := fun _ h => h.elim
  have hS : va_S (fun _ : Nat => False) s.heap s.heap [] := va_S.rf
  have hH := hF.2.2.narrow hN
  obtain ⟨F, hFe⟩ : ∃ F, F = pX4_hasAllNumbers rd := ⟨_, rfl⟩
  have hf := hFe
  have hin4 : ∀ w ∈ u_ws RX4 TX4 8, w ∈ wsX4_hasAllNumbers := by decide +kernel
  have fl33 := hts (.fieldLink RX4 33 "ClickBench$CommandReader" "command" "LClickBench$Command;") (by decide +kernel)
  have fl37 := hts (.fieldLink RX4 37 "ClickBench$CommandReader" "numbersRead" "I") (by decide +kernel)
  have fl98 := hts (.fieldLink RX4 98 "ClickBench$Command" "numbers" "I") (by decide +kernel)
  have J_21 :  ∀ ls : Array Slot, lv_has ls 1 [] → F = pX4_hasAllNumbers_L21 rd → W p l e rX4_hasAllNumbers s mi ([.ref (qd 0)] : List Value).toArray below meth c s.heap [] 0 0 (MQ below (gRz (pX4_hasAllNumbers rd)) ([.ref (qd 0)] : List Value).toArray s 0 0 (fun _ => False)) (F0 mi 21 ls []) := by
    intro ls hl hf
    refine lv_iconst (v := 1) hx hb dX4_hasAllNumbers_21 (by decide) ?_
    refine lv_goto (tgt := 26) hx hb dX4_hasAllNumbers_22 (by decide) ?_
    exact e_rz C0 (b := true) rfl (hf.symm.trans hFe) dX4_hasAllNumbers_26
  refine lv_aload_n hx hb dX4_hasAllNumbers_0 rfl (lv_at hl 0 rfl) ?_
  refine va_get (D := (dC, dI)) (ci := 2) (v := va_re eA rd.2.2.2) (C := RX4) (T := TX4) (N := 8) hx hb hts hin4 hown hK hP 0 rfl rfl 5 (by decide) fl33 (fun _ h9 => h9) rfl dX4_hasAllNumbers_1 ?_
  refine lv_ifnullE (ad := eA) (r := rd.2.2.2) (tgt := 21) hx hb dX4_hasAllNumbers_4 (by decide) (fun c1 => ?_) (fun c1 => ?_)
  · have hf := it_eq c1 hf
    exact J_21 _ (lv_sub hl [] rfl) hf
  · have hf := ie_eq c1 hf
    have hok := ie_ok c1 hok
    refine lv_aload_n hx hb dX4_hasAllNumbers_7 rfl (lv_at hl 0 rfl) ?_
    refine va_get (D := (dC, dI)) (ci := 2) (v := .int (rd.1 3)) (C := RX4) (T := TX4) (N := 8) hx hb hts hin4 hown hK hP 0 rfl rfl 6 (by decide) fl37 (fun _ h9 => h9) rfl dX4_hasAllNumbers_8 ?_
    refine lv_aload_n hx hb dX4_hasAllNumbers_11 rfl (lv_at hl 0 rfl) ?_
    refine va_get (D := (dC, dI)) (ci := 2) (v := va_re eA rd.2.2.2) (C := RX4) (T := TX4) (N := 8) hx hb hts hin4 hown hK hP 0 rfl rfl 5 (by decide) fl33 (fun _ h9 => h9) rfl dX4_hasAllNumbers_12 ?_
    have h3 : isE rd.2.2.2 := hok
    refine g_numE (r := rd.2.2.2) hx hb hH.2.2.2.2.2.1 hS hown fl98 h3 dX4_hasAllNumbers_15 ?_
    refine lv_icmp_lt (tgt := 25) hx hb dX4_hasAllNumbers_18 (by decide) (fun c2 => ?_) (fun c2 => ?_)
    · have hf := it_eq c2 hf
      refine lv_iconst (v := 0) hx hb dX4_hasAllNumbers_25 (by decide) ?_
      exact e_rz C0 (b := false) rfl (hf.symm.trans hFe) dX4_hasAllNumbers_26
    · have hf := ie_eq c2 hf
      exact J_21 _ (lv_sub hl [] rfl) hf
noncomputable def pX4_putNumber (rd : RS) (a1 : Int32) : RS := if 18 ≤ (rd.1 0) then (rd) else (if 4 ≤ (rd.1 3) then (rd) else (lt (dsn rd (upd rd.2.1 ((((rd.1 0) * 4) + (rd.1 3)).toNatClampNeg) a1)) fun (rd_4 : RS) => rd_4))
def kX4_putNumber (rd : RS) (a1 : Int32) : Prop := if 18 ≤ (rd.1 0) then (True) else (if 4 ≤ (rd.1 3) then (True) else (vp_in (((rd.1 0) * 4) + (rd.1 3)) 72))
abbrev rX4_putNumber : Room := { frames := 0, cells := 0, slots := 0, locals := 0 }
set_option maxHeartbeats 4000000 in
set_option maxRecDepth 100000 in
theorem mX4_putNumber (l : Launch) (dC : Nat → ClassId) (dI : Nat → Nat → Nat) (cI cB cO cL : ClassId) (N0 : Nat) (sT eA : Nat → Nat) (qd : Nat → Nat) (rd : RS) (a1 : Int32) (hI : gD (fun _ => True) (dAd qd)) (hN9 : ∀ a ∈ (dAd qd : List Nat), N0 ≤ a) (hok : kX4_putNumber rd a1) : Met l yX4_putNumber wsX4_putNumber rX4_putNumber (fP N0 sT eA (dC, dI) (tYS cI cB cO cL) (dw qd cI cO eA rd) [.ref (qd 0), .int a1]) (gQv (dC, dI) (fun z9 => dw qd cI cO eA z9) (wA (dw qd cI cO eA rd)) (pX4_putNumber rd a1)) 0 0 (wA (dw qd cI cO eA rd)) := by
  refine fMet (cc := cX4_putNumber) (maxL := 2) (ret := none) [(0, .ref (qd 0)), (1, .int a1)] (by decide) rfl rfl rfl ?_
  intro p e s mi below meth c C0 hK hF hP ls hl
  obtain ⟨hx, hb, hr, hml, hown, hts, hlocks⟩ := id C0
  have hown : s.vm.findClass RX4 = some mi.cls := hown
  have hE := hF.1
  have hN : ∀ q : Nat, (wA (dw qd cI cO eA rd)) q → N0 ≤ q := wA_N (ws := dw qd cI cO eA rd) hN9
  have hH := hF.2.2.narrow hN
  have hS : va_S (wA (dw qd cI cO eA rd)) s.heap s.heap [] := va_S.rf
  have hD : gD (wA (dw qd cI cO eA rd)) (dAd qd) := gD_wA (ws := dw qd cI cO eA rd) hI
  have hP : va_P (dC, dI) vwCl (dw qd cI cO eA rd) s.heap := hP
  obtain ⟨F, hFe⟩ : ∃ F, F = pX4_putNumber rd a1 := ⟨_, rfl⟩
  have hf := hFe
  have hin4 : ∀ w ∈ u_ws RX4 TX4 8, w ∈ wsX4_putNumber := by decide +kernel
  have fl23 := hts (.fieldLink RX4 23 "ClickBench$CommandReader" "count" "I") (by decide +kernel)
  have fl37 := hts (.fieldLink RX4 37 "ClickBench$CommandReader" "numbersRead" "I") (by decide +kernel)
  have fl19 := hts (.fieldLink RX4 19 "ClickBench$CommandReader" "numbers" "[I") (by decide +kernel)
  refine lv_aload_n hx hb dX4_putNumber_0 rfl (lv_at hl 0 rfl) ?_
  refine va_get (D := (dC, dI)) (ci := 2) (v := .int (rd.1 0)) (C := RX4) (T := TX4) (N := 8) hx hb hts hin4 hown hK hP 0 rfl rfl 2 (by decide) fl23 (fun _ h9 => h9) rfl dX4_putNumber_1 ?_
  refine lv_bipush (v := 18) hx hb dX4_putNumber_4 (by decide) ?_
  refine lv_icmp_ge (tgt := 34) hx hb dX4_putNumber_6 (by decide) (fun c1 => ?_) (fun c1 => ?_)
  · have hf := it_eq c1 hf
    exact e_mv C0 (hf.symm.trans hFe) hP hS dX4_putNumber_34
  · have hf := ie_eq c1 hf
    have hok := ie_ok c1 hok
    refine lv_aload_n hx hb dX4_putNumber_9 rfl (lv_at hl 0 rfl) ?_
    refine va_get (D := (dC, dI)) (ci := 2) (v := .int (rd.1 3)) (C := RX4) (T := TX4) (N := 8) hx hb hts hin4 hown hK hP 0 rfl rfl 6 (by decide) fl37 (fun _ h9 => h9) rfl dX4_putNumber_10 ?_
    refine lv_iconst (v := 4) hx hb dX4_putNumber_13 (by decide) ?_
    refine lv_icmp_ge (tgt := 34) hx hb dX4_putNumber_14 (by decide) (fun c2 => ?_) (fun c2 => ?_)
    · have hf := it_eq c2 hf
      exact e_mv C0 (hf.symm.trans hFe) hP hS dX4_putNumber_34
    · have hf := ie_eq c2 hf
      have hok := ie_ok c2 hok
      refine lv_aload_n hx hb dX4_putNumber_17 rfl (lv_at hl 0 rfl) ?_
      refine va_get (D := (dC, dI)) (ci := 2) (v := .ref (qd 2)) (C := RX4) (T := TX4) (N := 8) hx hb hts hin4 hown hK hP 0 rfl rfl 1 (by decide) fl19 (fun _ h9 => h9) rfl dX4_putNumber_18 ?_
      refine lv_aload_n hx hb dX4_putNumber_21 rfl (lv_at hl 0 rfl) ?_
      refine va_get (D := (dC, dI)) (ci := 2) (v := .int (rd.1 0)) (C := RX4) (T := TX4) (N := 8) hx hb hts hin4 hown hK hP 0 rfl rfl 2 (by decide) fl23 (fun _ h9 => h9) rfl dX4_putNumber_22 ?_
      refine lv_iconst (v := 4) hx hb dX4_putNumber_25 (by decide) ?_
      refine lv_imul hx hb dX4_putNumber_26 ?_
      refine lv_aload_n hx hb dX4_putNumber_27 rfl (lv_at hl 0 rfl) ?_
      refine va_get (D := (dC, dI)) (ci := 2) (v := .int (rd.1 3)) (C := RX4) (T := TX4) (N := 8) hx hb hts hin4 hown hK hP 0 rfl rfl 6 (by decide) fl37 (fun _ h9 => h9) rfl dX4_putNumber_28 ?_
      refine lv_iadd hx hb dX4_putNumber_31 ?_
      refine lv_iload_n hx hb dX4_putNumber_32 rfl (lv_at hl 1 rfl) ?_
      have h3 : vp_in (((rd.1 0) * 4) + (rd.1 3)) 72 := hok
      refine va_iast (D := (dC, dI)) (tys := (tYS cI cB cO cL)) hx hb hK hP (gD_va hD rfl) hS 2 0 rfl rfl h3 dX4_putNumber_33 (fun H locs hP _ hS => ?_)
      obtain ⟨rd_4, erd_4⟩ : ∃ z9 : RS, z9 = dsn rd (upd rd.2.1 ((((rd.1 0) * 4) + (rd.1 3)).toNatClampNeg) a1) := ⟨_, rfl⟩
      have hP : va_P (dC, dI) vwCl (dw qd cI cO eA rd_4) H := by rw [erd_4]; exact hP
      have hf := lt_eq erd_4 hf
      exact e_mv C0 (hf.symm.trans hFe) hP hS dX4_putNumber_34
noncomputable def pX4_numberOf_L24 (rd : RS)  (v1_24 : Int32) (v2_24 : Int32) (t0_24 : Bool) : Int32 := if t0_24 = true then (rd.2.1 (((v1_24 * 4) + v2_24).toNatClampNeg)) else (0)
def kX4_numberOf_L24 (rd : RS)  (v1_24 : Int32) (v2_24 : Int32) (t0_24 : Bool) : Prop := if t0_24 = true then (vp_in ((v1_24 * 4) + v2_24) 72) else (True)
noncomputable def pX4_numberOf_L23 (rd : RS)  (v1_23 : Int32) (v2_23 : Int32) : Int32 := pX4_numberOf_L24 rd v1_23 v2_23 false
def kX4_numberOf_L23 (rd : RS)  (v1_23 : Int32) (v2_23 : Int32) : Prop := kX4_numberOf_L24 rd v1_23 v2_23 false
noncomputable def pX4_numberOf (rd : RS) (a1 : Int32) (a2 : Int32) : Int32 := if (pX11_isBetween a1 0 17) = true then (if (pX11_isBetween a2 0 3) = true then (pX4_numberOf_L24 rd a1 a2 true) else (pX4_numberOf_L23 rd a1 a2)) else (pX4_numberOf_L23 rd a1 a2)
def kX4_numberOf (rd : RS) (a1 : Int32) (a2 : Int32) : Prop := if (pX11_isBetween a1 0 17) = true then (if (pX11_isBetween a2 0 3) = true then (kX4_numberOf_L24 rd a1 a2 true) else (kX4_numberOf_L23 rd a1 a2)) else (kX4_numberOf_L23 rd a1 a2)
abbrev rX4_numberOf : Room := { frames := 1, cells := 0, slots := 0, locals := 22 }
set_option maxHeartbeats 4000000 in
set_option maxRecDepth 100000 in
theorem mX4_numberOf (l : Launch) (dC : Nat → ClassId) (dI : Nat → Nat → Nat) (cI cB cO cL : ClassId) (N0 : Nat) (sT eA : Nat → Nat) (qd : Nat → Nat) (rd : RS) (a1 : Int32) (a2 : Int32) (hok : kX4_numberOf rd a1 a2) : Met l yX4_numberOf wsX4_numberOf rX4_numberOf (fP N0 sT eA (dC, dI) (tYS cI cB cO cL) (dw qd cI cO eA rd) [.ref (qd 0), .int a1, .int a2]) (gRi (pX4_numberOf rd a1 a2)) 0 0 (fun _ => False) := by
  refine fMet (cc := cX4_numberOf) (maxL := 4) (ret := some .int) [(0, .ref (qd 0)), (1, .int a1), (2, .int a2)] (by decide) rfl rfl rfl ?_
  intro p e s mi below meth c C0 hK hF hP ls hl
  obtain ⟨hx, hb, hr, hml, hown, hts, hlocks⟩ := id C0
  have hown : s.vm.findClass RX4 = some mi.cls := hown
  have hE := hF.1
  have hN : ∀ q : Nat, (fun _ : Nat => False) q → N0 ≤ q := fun _ h => h.elim
  have hS : va_S (fun _ : Nat => False) s.heap s.heap [] := va_S.rf
  have hH := hF.2.2.narrow hN
  obtain ⟨F, hFe⟩ : ∃ F, F = pX4_numberOf rd a1 a2 := ⟨_, rfl⟩
  have hf := hFe
  have hin4 : ∀ w ∈ u_ws RX4 TX4 8, w ∈ wsX4_numberOf := by decide +kernel
  have fl19 := hts (.fieldLink RX4 19 "ClickBench$CommandReader" "numbers" "[I") (by decide +kernel)
  have J_24 : ∀ (v1_24 : Int32) (v2_24 : Int32) (t0_24 : Bool), ∀ ls : Array Slot, lv_has ls 4 [(0, .ref (qd 0)), (1, .int v1_24), (2, .int v2_24)] → F = pX4_numberOf_L24 rd v1_24 v2_24 t0_24 → kX4_numberOf_L24 rd v1_24 v2_24 t0_24 → W p l e rX4_numberOf s mi ([.ref (qd 0), .int a1, .int a2] : List Value).toArray below meth c s.heap [] 0 0 (MQ below (gRi (pX4_numberOf rd a1 a2)) ([.ref (qd 0), .int a1, .int a2] : List Value).toArray s 0 0 (fun _ => False)) (F0 mi 24 ls [.int (bz t0_24)]) := by
    intro v1_24 v2_24 t0_24 ls hl hf hok
    refine lv_istore_n (lv' := [(3, .int (bz t0_24)), (0, .ref (qd 0)), (1, .int v1_24), (2, .int v2_24)]) hx hb dX4_numberOf_24 rfl hl (by decide) rfl (fun ls hl => ?_)
    refine lv_iload_n hx hb dX4_numberOf_25 rfl (lv_at hl 0 rfl) ?_
    refine lv_if_eq (tgt := 42) hx hb dX4_numberOf_26 (by decide) (fun c2 => ?_) (fun c2 => ?_)
    · have c2 := bz_f c2
      have hf := ie_eq c2 hf
      refine lv_iconst (v := 0) hx hb dX4_numberOf_42 (by decide) ?_
      exact e_ri C0 (hf.symm.trans hFe) dX4_numberOf_43
    · have c2 := bz_t c2
      have hf := it_eq c2 hf
      have hok := it_ok c2 hok
      refine lv_aload_n hx hb dX4_numberOf_29 rfl (lv_at hl 1 rfl) ?_
      refine va_get (D := (dC, dI)) (ci := 2) (v := .ref (qd 2)) (C := RX4) (T := TX4) (N := 8) hx hb hts hin4 hown hK hP 0 rfl rfl 1 (by decide) fl19 (fun _ h9 => h9) rfl dX4_numberOf_30 ?_
      refine lv_iload_n hx hb dX4_numberOf_33 rfl (lv_at hl 2 rfl) ?_
      refine lv_iconst (v := 4) hx hb dX4_numberOf_34 (by decide) ?_
      refine lv_imul hx hb dX4_numberOf_35 ?_
      refine lv_iload_n hx hb dX4_numberOf_36 rfl (lv_at hl 3 rfl) ?_
      refine lv_iadd hx hb dX4_numberOf_37 ?_
      have h3 : vp_in ((v1_24 * 4) + v2_24) 72 := hok
      refine va_iald (D := (dC, dI)) (tys := (tYS cI cB cO cL)) hx hb hK hP 2 0 rfl rfl h3 dX4_numberOf_38 ?_
      refine lv_goto (tgt := 43) hx hb dX4_numberOf_39 (by decide) ?_
      exact e_ri C0 (hf.symm.trans hFe) dX4_numberOf_43
  have J_23 : ∀ (v1_23 : Int32) (v2_23 : Int32), ∀ ls : Array Slot, lv_has ls 4 [(0, .ref (qd 0)), (1, .int v1_23), (2, .int v2_23)] → F = pX4_numberOf_L23 rd v1_23 v2_23 → kX4_numberOf_L23 rd v1_23 v2_23 → W p l e rX4_numberOf s mi ([.ref (qd 0), .int a1, .int a2] : List Value).toArray below meth c s.heap [] 0 0 (MQ below (gRi (pX4_numberOf rd a1 a2)) ([.ref (qd 0), .int a1, .int a2] : List Value).toArray s 0 0 (fun _ => False)) (F0 mi 23 ls []) := by
    intro v1_23 v2_23 ls hl hf hok
    refine lv_iconst (v := 0) hx hb dX4_numberOf_23 (by decide) ?_
    exact J_24 v1_23 v2_23 false _ (lv_sub hl [0, 1, 2] rfl) hf hok
  refine lv_iload_n hx hb dX4_numberOf_0 rfl (lv_at hl 1 rfl) ?_
  refine lv_iconst (v := 0) hx hb dX4_numberOf_1 (by decide) ?_
  refine lv_bipush (v := 17) hx hb dX4_numberOf_2 (by decide) ?_
  refine gro_i (va_runSN (As := [.int a1, .int 0, .int 17]) (rest := []) ⟨hx, hb, hml, hown, hts⟩ (mX11_isBetween l dC dI cI cB cO cL  a1 0 17  ) ⟨va_cnB 3 hts gX4_numberOf_X11_isBetween_n43 rfl rfl rfl (eN.at hF.1 (own := RX4) (idx := 43) (y := yX11_isBetween) (host := "ClickBench") (by decide +kernel)) (hts (.initialized RX11) (by decide +kernel)) (by decide +kernel) ⟨Nat.le_of_ble_eq_true rfl, Nat.le_of_ble_eq_true rfl⟩, hts (.static yX11_isBetween) (by decide +kernel), trivial⟩ ⟨cP_blind, cP_ok va_P_nil hK hE⟩ rfl rfl hl.1 rfl (lv_room (Nat.le_of_ble_eq_true rfl)) dX4_numberOf_4 ⟨Nat.zero_le _, Nat.zero_le _⟩) ?_
  refine lv_if_eq (tgt := 23) hx hb dX4_numberOf_7 (by decide) (fun c1 => ?_) (fun c1 => ?_)
  · have c1 := bz_f c1
    have hf := ie_eq c1 hf
    have hok := ie_ok c1 hok
    exact J_23 a1 a2 _ (lv_sub hl [0, 1, 2] rfl) hf hok
  · have c1 := bz_t c1
    have hf := it_eq c1 hf
    have hok := it_ok c1 hok
    refine lv_iload_n hx hb dX4_numberOf_10 rfl (lv_at hl 2 rfl) ?_
    refine lv_iconst (v := 0) hx hb dX4_numberOf_11 (by decide) ?_
    refine lv_iconst (v := 3) hx hb dX4_numberOf_12 (by decide) ?_
    refine gro_i (va_runSN (As := [.int a2, .int 0, .int 3]) (rest := []) ⟨hx, hb, hml, hown, hts⟩ (mX11_isBetween l dC dI cI cB cO cL  a2 0 3  ) ⟨va_cnB 3 hts gX4_numberOf_X11_isBetween_n43 rfl rfl rfl (eN.at hF.1 (own := RX4) (idx := 43) (y := yX11_isBetween) (host := "ClickBench") (by decide +kernel)) (hts (.initialized RX11) (by decide +kernel)) (by decide +kernel) ⟨Nat.le_of_ble_eq_true rfl, Nat.le_of_ble_eq_true rfl⟩, hts (.static yX11_isBetween) (by decide +kernel), trivial⟩ ⟨cP_blind, cP_ok va_P_nil hK hE⟩ rfl rfl hl.1 rfl (lv_room (Nat.le_of_ble_eq_true rfl)) dX4_numberOf_13 ⟨Nat.zero_le _, Nat.zero_le _⟩) ?_
    refine lv_if_eq (tgt := 23) hx hb dX4_numberOf_16 (by decide) (fun c4 => ?_) (fun c4 => ?_)
    · have c4 := bz_f c4
      have hf := ie_eq c4 hf
      have hok := ie_ok c4 hok
      exact J_23 a1 a2 _ (lv_sub hl [0, 1, 2] rfl) hf hok
    · have c4 := bz_t c4
      have hf := it_eq c4 hf
      have hok := it_ok c4 hok
      refine lv_iconst (v := 1) hx hb dX4_numberOf_19 (by decide) ?_
      refine lv_goto (tgt := 24) hx hb dX4_numberOf_20 (by decide) ?_
      exact J_24 a1 a2 true _ (lv_sub hl [0, 1, 2] rfl) hf hok
noncomputable def pX4_commandOf (rd : RS) (a1 : Int32) : Option Nat := if (pX11_isBetween a1 0 17) = true then (rd.2.2.1 a1.toNatClampNeg) else (none)
def kX4_commandOf (rd : RS) (a1 : Int32) : Prop := if (pX11_isBetween a1 0 17) = true then (vp_in a1 18) else (True)
abbrev rX4_commandOf : Room := { frames := 1, cells := 0, slots := 0, locals := 22 }
set_option maxHeartbeats 4000000 in
set_option maxRecDepth 100000 in
theorem mX4_commandOf (l : Launch) (dC : Nat → ClassId) (dI : Nat → Nat → Nat) (cI cB cO cL : ClassId) (N0 : Nat) (sT eA : Nat → Nat) (qd : Nat → Nat) (rd : RS) (a1 : Int32) (hok : kX4_commandOf rd a1) : Met l yX4_commandOf wsX4_commandOf rX4_commandOf (fP N0 sT eA (dC, dI) (tYS cI cB cO cL) (dw qd cI cO eA rd) [.ref (qd 0), .int a1]) (gRe eA (pX4_commandOf rd a1)) 0 0 (fun _ => False) := by
  refine fMet (cc := cX4_commandOf) (maxL := 2) (ret := some (.object "ClickBench$Command")) [(0, .ref (qd 0)), (1, .int a1)] (by decide) rfl rfl rfl ?_
  intro p e s mi below meth c C0 hK hF hP ls hl
  obtain ⟨hx, hb, hr, hml, hown, hts, hlocks⟩ := id C0
  have hown : s.vm.findClass RX4 = some mi.cls := hown
  have hE := hF.1
  have hN : ∀ q : Nat, (fun _ : Nat => False) q → N0 ≤ q := fun _ h => h.elim
  have hS : va_S (fun _ : Nat => False) s.heap s.heap [] := va_S.rf
  have hH := hF.2.2.narrow hN
  obtain ⟨F, hFe⟩ : ∃ F, F = pX4_commandOf rd a1 := ⟨_, rfl⟩
  have hf := hFe
  have hin4 : ∀ w ∈ u_ws RX4 TX4 8, w ∈ wsX4_commandOf := by decide +kernel
  have fl15 := hts (.fieldLink RX4 15 "ClickBench$CommandReader" "commands" "[LClickBench$Command;") (by decide +kernel)
  refine lv_iload_n hx hb dX4_commandOf_0 rfl (lv_at hl 1 rfl) ?_
  refine lv_iconst (v := 0) hx hb dX4_commandOf_1 (by decide) ?_
  refine lv_bipush (v := 17) hx hb dX4_commandOf_2 (by decide) ?_
  refine gro_i (va_runSN (As := [.int a1, .int 0, .int 17]) (rest := []) ⟨hx, hb, hml, hown, hts⟩ (mX11_isBetween l dC dI cI cB cO cL  a1 0 17  ) ⟨va_cnB 3 hts gX4_commandOf_X11_isBetween_n43 rfl rfl rfl (eN.at hF.1 (own := RX4) (idx := 43) (y := yX11_isBetween) (host := "ClickBench") (by decide +kernel)) (hts (.initialized RX11) (by decide +kernel)) (by decide +kernel) ⟨Nat.le_of_ble_eq_true rfl, Nat.le_of_ble_eq_true rfl⟩, hts (.static yX11_isBetween) (by decide +kernel), trivial⟩ ⟨cP_blind, cP_ok va_P_nil hK hE⟩ rfl rfl hl.1 rfl (lv_room (Nat.le_of_ble_eq_true rfl)) dX4_commandOf_4 ⟨Nat.zero_le _, Nat.zero_le _⟩) ?_
  refine lv_if_eq (tgt := 19) hx hb dX4_commandOf_7 (by decide) (fun c1 => ?_) (fun c1 => ?_)
  · have c1 := bz_f c1
    have hf := ie_eq c1 hf
    refine lv_null hx hb dX4_commandOf_19 ?_
    exact e_re C0 (r := none) (hf.symm.trans hFe) dX4_commandOf_20
  · have c1 := bz_t c1
    have hf := it_eq c1 hf
    have hok := it_ok c1 hok
    refine lv_aload_n hx hb dX4_commandOf_10 rfl (lv_at hl 0 rfl) ?_
    refine va_get (D := (dC, dI)) (ci := 2) (v := .ref (qd 1)) (C := RX4) (T := TX4) (N := 8) hx hb hts hin4 hown hK hP 0 rfl rfl 0 (by decide) fl15 (fun _ h9 => h9) rfl dX4_commandOf_11 ?_
    refine lv_iload_n hx hb dX4_commandOf_14 rfl (lv_at hl 1 rfl) ?_
    have h2 : vp_in a1 18 := hok
    refine va_aldq (D := (dC, dI)) (tys := (tYS cI cB cO cL)) hx hb hK hP 1 2 rfl rfl h2 dX4_commandOf_15 ?_
    refine lv_goto (tgt := 20) hx hb dX4_commandOf_16 (by decide) ?_
    exact e_re C0 (r := (rd.2.2.1 a1.toNatClampNeg)) (hf.symm.trans hFe) dX4_commandOf_20
noncomputable def pX4_endCommand_L41   (rd_41 : RS) : Int32 × RS := lt (dsi rd_41 1 0) fun (rd_4 : RS) => ((-1000000000), rd_4)
noncomputable def pX4_endCommand (rd : RS) (a1 : Int32) : Int32 × RS := if (pX4_hasAllNumbers rd) = true then (if 18 ≤ (rd.1 0) then (pX4_endCommand_L41 rd) else (lt (dsc rd (updO rd.2.2.1 ((rd.1 0).toNatClampNeg) rd.2.2.2)) fun (rd_7 : RS) => lt (dsi rd_7 0 ((rd_7.1 0) + 1)) fun (rd_8 : RS) => pX4_endCommand_L41 rd_8)) else ((a1, rd))
def kX4_endCommand (rd : RS) (a1 : Int32) : Prop := (kX4_hasAllNumbers rd) ∧ (if (pX4_hasAllNumbers rd) = true then (if 18 ≤ (rd.1 0) then (True) else ((vp_in (rd.1 0) 18) ∧ (isE rd.2.2.2))) else (True))
abbrev rX4_endCommand : Room := { frames := 1, cells := 0, slots := 0, locals := 20 }
set_option maxHeartbeats 4000000 in
set_option maxRecDepth 100000 in
theorem mX4_endCommand (l : Launch) (dC : Nat → ClassId) (dI : Nat → Nat → Nat) (cI cB cO cL : ClassId) (N0 : Nat) (sT eA : Nat → Nat) (qd : Nat → Nat) (rd : RS) (a1 : Int32) (hI : gD (fun _ => True) (dAd qd)) (hN9 : ∀ a ∈ (dAd qd : List Nat), N0 ≤ a) (hok : kX4_endCommand rd a1) : Met l yX4_endCommand wsX4_endCommand rX4_endCommand (fP N0 sT eA (dC, dI) (tYS cI cB cO cL) (dw qd cI cO eA rd) [.ref (qd 0), .int a1]) (gQi (dC, dI) (fun z9 => dw qd cI cO eA z9) (wA (dw qd cI cO eA rd)) (pX4_endCommand rd a1)) 0 0 (wA (dw qd cI cO eA rd)) := by
  refine fMet (cc := cX4_endCommand) (maxL := 2) (ret := some .int) [(0, .ref (qd 0)), (1, .int a1)] (by decide) rfl rfl rfl ?_
  intro p e s mi below meth c C0 hK hF hP ls hl
  obtain ⟨hx, hb, hr, hml, hown, hts, hlocks⟩ := id C0
  have hown : s.vm.findClass RX4 = some mi.cls := hown
  have hE := hF.1
  have hN : ∀ q : Nat, (wA (dw qd cI cO eA rd)) q → N0 ≤ q := wA_N (ws := dw qd cI cO eA rd) hN9
  have hH := hF.2.2.narrow hN
  have hS : va_S (wA (dw qd cI cO eA rd)) s.heap s.heap [] := va_S.rf
  have hD : gD (wA (dw qd cI cO eA rd)) (dAd qd) := gD_wA (ws := dw qd cI cO eA rd) hI
  have hP : va_P (dC, dI) vwCl (dw qd cI cO eA rd) s.heap := hP
  obtain ⟨F, hFe⟩ : ∃ F, F = pX4_endCommand rd a1 := ⟨_, rfl⟩
  have hf := hFe
  have hin4 : ∀ w ∈ u_ws RX4 TX4 8, w ∈ wsX4_endCommand := by decide +kernel
  have fl23 := hts (.fieldLink RX4 23 "ClickBench$CommandReader" "count" "I") (by decide +kernel)
  have fl27 := hts (.fieldLink RX4 27 "ClickBench$CommandReader" "place" "I") (by decide +kernel)
  have cn54 := hts (.constant RX4 54 (-1000000000)) (by decide +kernel)
  have fl15 := hts (.fieldLink RX4 15 "ClickBench$CommandReader" "commands" "[LClickBench$Command;") (by decide +kernel)
  have fl33 := hts (.fieldLink RX4 33 "ClickBench$CommandReader" "command" "LClickBench$Command;") (by decide +kernel)
  have J_41 : ∀ (rd_41 : RS) (H : Heap) (locs : List Loc), va_P (dC, dI) vwCl (dw qd cI cO eA rd_41) H → va_S (wA (dw qd cI cO eA rd)) s.heap H locs → ∀ ls : Array Slot, lv_has ls 2 [(0, .ref (qd 0))] → F = pX4_endCommand_L41 rd_41 → W p l e rX4_endCommand s mi ([.ref (qd 0), .int a1] : List Value).toArray below meth c H locs 0 0 (MQ below (gQi (dC, dI) (fun z9 => dw qd cI cO eA z9) (wA (dw qd cI cO eA rd)) (pX4_endCommand rd a1)) ([.ref (qd 0), .int a1] : List Value).toArray s 0 0 (wA (dw qd cI cO eA rd))) (F0 mi 41 ls []) := by
    intro rd_41 H locs hP hS ls hl hf
    refine lv_aload_n hx hb dX4_endCommand_41 rfl (lv_at hl 0 rfl) ?_
    refine lv_iconst (v := 0) hx hb dX4_endCommand_42 (by decide) ?_
    refine va_put (D := (dC, dI)) (ci := 2) (v := .int 0) (ty := .int) (C := RX4) (T := TX4) (N := 8) hx hb hts hin4 tyX4 tyX4_ok nmX4 hown hK hP (gD_va hD rfl) hS 0 rfl rfl 3 (by decide) fl27 (fun _ h9 => h9) rfl (by decide +kernel) rfl rfl (Nat.le_of_ble_eq_true rfl) dX4_endCommand_43 (fun H locs hP _ hS => ?_)
    obtain ⟨rd_4, erd_4⟩ : ∃ z9 : RS, z9 = dsi rd_41 1 0 := ⟨_, rfl⟩
    have hP : va_P (dC, dI) vwCl (dw qd cI cO eA rd_4) H := by rw [erd_4]; exact hP
    have hf := lt_eq erd_4 hf
    refine lv_ldc (v := (-1000000000)) hx hb hown cn54 dX4_endCommand_46 ?_
    exact e_mi C0 (hf.symm.trans hFe) hP hS dX4_endCommand_48
  refine lv_aload_n hx hb dX4_endCommand_0 rfl (lv_at hl 0 rfl) ?_
  obtain ⟨h1, hok⟩ := hok
  refine gro_i (va_runV (As := []) (rest := []) ⟨hx, hb, hml, hown, hts⟩ (mX4_hasAllNumbers l dC dI cI cB cO cL N0 sT eA qd rd  h1) (cwV 0 hts gX4_endCommand_X4_hasAllNumbers rfl rfl rfl (by decide +kernel) ⟨Nat.le_of_ble_eq_true rfl, Nat.le_of_ble_eq_true rfl⟩) ⟨fP_blind, va_recv hK hP (ci := 2) (q0 := 0) rfl rfl, fP_ok hP hK hF hS hN⟩ rfl rfl hl.1 rfl (lv_room (Nat.le_of_ble_eq_true rfl)) dX4_endCommand_1 ⟨Nat.zero_le _, Nat.zero_le _⟩) ?_
  refine lv_if_ne (tgt := 9) hx hb dX4_endCommand_4 (by decide) (fun c2 => ?_) (fun c2 => ?_)
  · have c2 := bz_t c2
    have hf := it_eq c2 hf
    have hok := it_ok c2 hok
    refine lv_aload_n hx hb dX4_endCommand_9 rfl (lv_at hl 0 rfl) ?_
    refine va_get (D := (dC, dI)) (ci := 2) (v := .int (rd.1 0)) (C := RX4) (T := TX4) (N := 8) hx hb hts hin4 hown hK hP 0 rfl rfl 2 (by decide) fl23 (fun _ h9 => h9) rfl dX4_endCommand_10 ?_
    refine lv_bipush (v := 18) hx hb dX4_endCommand_13 (by decide) ?_
    refine lv_icmp_ge (tgt := 41) hx hb dX4_endCommand_15 (by decide) (fun c3 => ?_) (fun c3 => ?_)
    · have hf := it_eq c3 hf
      exact J_41 rd _ _ hP hS _ (lv_sub hl [0] rfl) hf
    · have hf := ie_eq c3 hf
      have hok := ie_ok c3 hok
      refine lv_aload_n hx hb dX4_endCommand_18 rfl (lv_at hl 0 rfl) ?_
      refine va_get (D := (dC, dI)) (ci := 2) (v := .ref (qd 1)) (C := RX4) (T := TX4) (N := 8) hx hb hts hin4 hown hK hP 0 rfl rfl 0 (by decide) fl15 (fun _ h9 => h9) rfl dX4_endCommand_19 ?_
      refine lv_aload_n hx hb dX4_endCommand_22 rfl (lv_at hl 0 rfl) ?_
      refine va_get (D := (dC, dI)) (ci := 2) (v := .int (rd.1 0)) (C := RX4) (T := TX4) (N := 8) hx hb hts hin4 hown hK hP 0 rfl rfl 2 (by decide) fl23 (fun _ h9 => h9) rfl dX4_endCommand_23 ?_
      refine lv_aload_n hx hb dX4_endCommand_26 rfl (lv_at hl 0 rfl) ?_
      refine va_get (D := (dC, dI)) (ci := 2) (v := va_re eA rd.2.2.2) (C := RX4) (T := TX4) (N := 8) hx hb hts hin4 hown hK hP 0 rfl rfl 5 (by decide) fl33 (fun _ h9 => h9) rfl dX4_endCommand_27 ?_
      obtain ⟨h5, h6⟩ := hok
      refine g_astE (D := (dC, dI)) (tys := (tYS cI cB cO cL)) (r := rd.2.2.2) hx hb hK hP (gD_va hD rfl) hS hH.2.2.2.2.2.1 h6 1 2 rfl rfl h5 dX4_endCommand_30 (fun H locs hP hS => ?_)
      obtain ⟨rd_7, erd_7⟩ : ∃ z9 : RS, z9 = dsc rd (updO rd.2.2.1 ((rd.1 0).toNatClampNeg) rd.2.2.2) := ⟨_, rfl⟩
      have hP : va_P (dC, dI) vwCl (dw qd cI cO eA rd_7) H := by rw [erd_7]; exact hP
      have hf := lt_eq erd_7 hf
      refine lv_aload_n hx hb dX4_endCommand_31 rfl (lv_at hl 0 rfl) ?_
      refine lv_dup hx hb dX4_endCommand_32 rfl ?_
      refine va_get (D := (dC, dI)) (ci := 2) (v := .int (rd_7.1 0)) (C := RX4) (T := TX4) (N := 8) hx hb hts hin4 hown hK hP 0 rfl rfl 2 (by decide) fl23 (fun _ h9 => h9) rfl dX4_endCommand_33 ?_
      refine lv_iconst (v := 1) hx hb dX4_endCommand_36 (by decide) ?_
      refine lv_iadd hx hb dX4_endCommand_37 ?_
      refine va_put (D := (dC, dI)) (ci := 2) (v := .int ((rd_7.1 0) + 1)) (ty := .int) (C := RX4) (T := TX4) (N := 8) hx hb hts hin4 tyX4 tyX4_ok nmX4 hown hK hP (gD_va hD rfl) hS 0 rfl rfl 2 (by decide) fl23 (fun _ h9 => h9) rfl (by decide +kernel) rfl rfl (Nat.le_of_ble_eq_true rfl) dX4_endCommand_38 (fun H locs hP _ hS => ?_)
      obtain ⟨rd_8, erd_8⟩ : ∃ z9 : RS, z9 = dsi rd_7 0 ((rd_7.1 0) + 1) := ⟨_, rfl⟩
      have hP : va_P (dC, dI) vwCl (dw qd cI cO eA rd_8) H := by rw [erd_8]; exact hP
      have hf := lt_eq erd_8 hf
      exact J_41 rd_8 _ _ hP hS _ (lv_sub hl [0] rfl) hf
  · have c2 := bz_f c2
    have hf := ie_eq c2 hf
    refine lv_iload_n hx hb dX4_endCommand_7 rfl (lv_at hl 1 rfl) ?_
    exact e_mi C0 (hf.symm.trans hFe) hP hS dX4_endCommand_8
noncomputable def pX4_stepInFront (rd : RS) (a1 : Int32) (a2 : Int32) : Int32 × RS := if a1 = 32 then (((-1000000000), rd)) else (if (pX4_isLetter a1) = true then (lt (dsi rd 2 a2) fun (rd_3 : RS) => lt (dsi rd_3 1 1) fun (rd_4 : RS) => ((-1000000000), rd_4)) else ((a2, rd)))
abbrev rX4_stepInFront : Room := { frames := 2, cells := 0, slots := 0, locals := 42 }
set_option maxHeartbeats 4000000 in
set_option maxRecDepth 100000 in
theorem mX4_stepInFront (l : Launch) (dC : Nat → ClassId) (dI : Nat → Nat → Nat) (cI cB cO cL : ClassId) (N0 : Nat) (sT eA : Nat → Nat) (qd : Nat → Nat) (rd : RS) (a1 : Int32) (a2 : Int32) (hI : gD (fun _ => True) (dAd qd)) (hN9 : ∀ a ∈ (dAd qd : List Nat), N0 ≤ a) : Met l yX4_stepInFront wsX4_stepInFront rX4_stepInFront (fP N0 sT eA (dC, dI) (tYS cI cB cO cL) (dw qd cI cO eA rd) [.ref (qd 0), .int a1, .int a2]) (gQi (dC, dI) (fun z9 => dw qd cI cO eA z9) (wA (dw qd cI cO eA rd)) (pX4_stepInFront rd a1 a2)) 0 0 (wA (dw qd cI cO eA rd)) := by
  refine fMet (cc := cX4_stepInFront) (maxL := 3) (ret := some .int) [(0, .ref (qd 0)), (1, .int a1), (2, .int a2)] (by decide) rfl rfl rfl ?_
  intro p e s mi below meth c C0 hK hF hP ls hl
  obtain ⟨hx, hb, hr, hml, hown, hts, hlocks⟩ := id C0
  have hown : s.vm.findClass RX4 = some mi.cls := hown
  have hE := hF.1
  have hN : ∀ q : Nat, (wA (dw qd cI cO eA rd)) q → N0 ≤ q := wA_N (ws := dw qd cI cO eA rd) hN9
  have hH := hF.2.2.narrow hN
  have hS : va_S (wA (dw qd cI cO eA rd)) s.heap s.heap [] := va_S.rf
  have hD : gD (wA (dw qd cI cO eA rd)) (dAd qd) := gD_wA (ws := dw qd cI cO eA rd) hI
  have hP : va_P (dC, dI) vwCl (dw qd cI cO eA rd) s.heap := hP
  obtain ⟨F, hFe⟩ : ∃ F, F = pX4_stepInFront rd a1 a2 := ⟨_, rfl⟩
  have hf := hFe
  have hin4 : ∀ w ∈ u_ws RX4 TX4 8, w ∈ wsX4_stepInFront := by decide +kernel
  have fl30 := hts (.fieldLink RX4 30 "ClickBench$CommandReader" "wordStart" "I") (by decide +kernel)
  have fl27 := hts (.fieldLink RX4 27 "ClickBench$CommandReader" "place" "I") (by decide +kernel)
  have cn54 := hts (.constant RX4 54 (-1000000000)) (by decide +kernel)
  refine lv_iload_n hx hb dX4_stepInFront_0 rfl (lv_at hl 1 rfl) ?_
  refine lv_bipush (v := 32) hx hb dX4_stepInFront_1 (by decide) ?_
  refine lv_icmp_ne (tgt := 9) hx hb dX4_stepInFront_3 (by decide) (fun c1 => ?_) (fun c1 => ?_)
  · have hf := ie_eq c1 hf
    refine lv_iload_n hx hb dX4_stepInFront_9 rfl (lv_at hl 1 rfl) ?_
    refine gro_i (va_runS (As := [.int a1]) (rest := []) ⟨hx, hb, hml, hown, hts⟩ (mX4_isLetter l dC dI cI cB cO cL  a1  ) (va_cwS 1 hts gX4_stepInFront_X4_isLetter rfl rfl rfl (by decide +kernel) ⟨Nat.le_of_ble_eq_true rfl, Nat.le_of_ble_eq_true rfl⟩) ⟨cP_blind, cP_ok va_P_nil hK hE⟩ rfl rfl hl.1 rfl (lv_room (Nat.le_of_ble_eq_true rfl)) dX4_stepInFront_10 ⟨Nat.zero_le _, Nat.zero_le _⟩) ?_
    refine lv_if_ne (tgt := 18) hx hb dX4_stepInFront_13 (by decide) (fun c2 => ?_) (fun c2 => ?_)
    · have c2 := bz_t c2
      have hf := it_eq c2 hf
      refine lv_aload_n hx hb dX4_stepInFront_18 rfl (lv_at hl 0 rfl) ?_
      refine lv_iload_n hx hb dX4_stepInFront_19 rfl (lv_at hl 2 rfl) ?_
      refine va_put (D := (dC, dI)) (ci := 2) (v := .int a2) (ty := .int) (C := RX4) (T := TX4) (N := 8) hx hb hts hin4 tyX4 tyX4_ok nmX4 hown hK hP (gD_va hD rfl) hS 0 rfl rfl 4 (by decide) fl30 (fun _ h9 => h9) rfl (by decide +kernel) rfl rfl (Nat.le_of_ble_eq_true rfl) dX4_stepInFront_20 (fun H locs hP _ hS => ?_)
      obtain ⟨rd_3, erd_3⟩ : ∃ z9 : RS, z9 = dsi rd 2 a2 := ⟨_, rfl⟩
      have hP : va_P (dC, dI) vwCl (dw qd cI cO eA rd_3) H := by rw [erd_3]; exact hP
      have hf := lt_eq erd_3 hf
      refine lv_aload_n hx hb dX4_stepInFront_23 rfl (lv_at hl 0 rfl) ?_
      refine lv_iconst (v := 1) hx hb dX4_stepInFront_24 (by decide) ?_
      refine va_put (D := (dC, dI)) (ci := 2) (v := .int 1) (ty := .int) (C := RX4) (T := TX4) (N := 8) hx hb hts hin4 tyX4 tyX4_ok nmX4 hown hK hP (gD_va hD rfl) hS 0 rfl rfl 3 (by decide) fl27 (fun _ h9 => h9) rfl (by decide +kernel) rfl rfl (Nat.le_of_ble_eq_true rfl) dX4_stepInFront_25 (fun H locs hP _ hS => ?_)
      obtain ⟨rd_4, erd_4⟩ : ∃ z9 : RS, z9 = dsi rd_3 1 1 := ⟨_, rfl⟩
      have hP : va_P (dC, dI) vwCl (dw qd cI cO eA rd_4) H := by rw [erd_4]; exact hP
      have hf := lt_eq erd_4 hf
      refine lv_ldc (v := (-1000000000)) hx hb hown cn54 dX4_stepInFront_28 ?_
      exact e_mi C0 (hf.symm.trans hFe) hP hS dX4_stepInFront_30
    · have c2 := bz_f c2
      have hf := ie_eq c2 hf
      refine lv_iload_n hx hb dX4_stepInFront_16 rfl (lv_at hl 2 rfl) ?_
      exact e_mi C0 (hf.symm.trans hFe) hP hS dX4_stepInFront_17
  · have hf := it_eq c1 hf
    refine lv_ldc (v := (-1000000000)) hx hb hown cn54 dX4_stepInFront_6 ?_
    exact e_mi C0 (hf.symm.trans hFe) hP hS dX4_stepInFront_8
noncomputable def pX4_stepInWord (rd : RS) (x : TS) (a2 : Int32) (a3 : Int32) : Int32 × RS × TS := if (pX4_isLetter a2) = true then (((-1000000000), rd, x)) else (lt (dse rd (pX5_commandAt x (rd.1 2) a3)) fun (rd_2 : RS) => if rd_2.2.2.2 = none then ((rd_2.1 2, rd_2, x)) else (if a2 = 32 then (lt (dsi rd_2 3 0) fun (rd_5 : RS) => lt (dsi rd_5 1 2) fun (rd_6 : RS) => ((-1000000000), rd_6, x)) else ((a3, rd_2, x))))
abbrev rX4_stepInWord : Room := { frames := 6, cells := 0, slots := 0, locals := 135 }
set_option maxHeartbeats 4000000 in
set_option maxRecDepth 100000 in
theorem mX4_stepInWord (l : Launch) (dC : Nat → ClassId) (dI : Nat → Nat → Nat) (cI cB cO cL : ClassId) (N0 : Nat) (sT eA : Nat → Nat) (qd : Nat → Nat) (qx : Nat → Nat) (rd : RS) (x : TS) (a2 : Int32) (a3 : Int32) (hI : gD (fun _ => True) (dAd qd ++ xAd qx)) (hN9 : ∀ a ∈ (dAd qd ++ xAd qx : List Nat), N0 ≤ a) : Met l yX4_stepInWord wsX4_stepInWord rX4_stepInWord (fP N0 sT eA (dC, dI) (tYS cI cB cO cL) (dw qd cI cO eA rd ++ xw qx cI x) [.ref (qd 0), .ref (qx 0), .int a2, .int a3]) (gQi (dC, dI) (fun z9 : RS × TS => dw qd cI cO eA z9.1 ++ xw qx cI z9.2) (wA (dw qd cI cO eA rd ++ xw qx cI x)) (pX4_stepInWord rd x a2 a3)) 0 0 (wA (dw qd cI cO eA rd ++ xw qx cI x)) := by
  refine fMet (cc := cX4_stepInWord) (maxL := 4) (ret := some .int) [(0, .ref (qd 0)), (1, .ref (qx 0)), (2, .int a2), (3, .int a3)] (by decide) rfl rfl rfl ?_
  intro p e s mi below meth c C0 hK hF hP ls hl
  obtain ⟨hx, hb, hr, hml, hown, hts, hlocks⟩ := id C0
  have hown : s.vm.findClass RX4 = some mi.cls := hown
  have hE := hF.1
  have hN : ∀ q : Nat, (wA (dw qd cI cO eA rd ++ xw qx cI x)) q → N0 ≤ q := wA_N (ws := dw qd cI cO eA rd ++ xw qx cI x) hN9
  have hH := hF.2.2.narrow hN
  have hS : va_S (wA (dw qd cI cO eA rd ++ xw qx cI x)) s.heap s.heap [] := va_S.rf
  have hD : gD (wA (dw qd cI cO eA rd ++ xw qx cI x)) (dAd qd ++ xAd qx) := gD_wA (ws := dw qd cI cO eA rd ++ xw qx cI x) hI
  have hP : va_P (dC, dI) vwCl (dw qd cI cO eA rd ++ xw qx cI x) s.heap := hP
  obtain ⟨F, hFe⟩ : ∃ F, F = pX4_stepInWord rd x a2 a3 := ⟨_, rfl⟩
  have hf := hFe
  have hin4 : ∀ w ∈ u_ws RX4 TX4 8, w ∈ wsX4_stepInWord := by decide +kernel
  have fl30 := hts (.fieldLink RX4 30 "ClickBench$CommandReader" "wordStart" "I") (by decide +kernel)
  have fl33 := hts (.fieldLink RX4 33 "ClickBench$CommandReader" "command" "LClickBench$Command;") (by decide +kernel)
  have fl37 := hts (.fieldLink RX4 37 "ClickBench$CommandReader" "numbersRead" "I") (by decide +kernel)
  have fl27 := hts (.fieldLink RX4 27 "ClickBench$CommandReader" "place" "I") (by decide +kernel)
  have cn54 := hts (.constant RX4 54 (-1000000000)) (by decide +kernel)
  refine lv_iload_n hx hb dX4_stepInWord_0 rfl (lv_at hl 2 rfl) ?_
  refine gro_i (va_runS (As := [.int a2]) (rest := []) ⟨hx, hb, hml, hown, hts⟩ (mX4_isLetter l dC dI cI cB cO cL  a2  ) (va_cwS 1 hts gX4_stepInWord_X4_isLetter rfl rfl rfl (by decide +kernel) ⟨Nat.le_of_ble_eq_true rfl, Nat.le_of_ble_eq_true rfl⟩) ⟨cP_blind, cP_ok va_P_nil hK hE⟩ rfl rfl hl.1 rfl (lv_room (Nat.le_of_ble_eq_true rfl)) dX4_stepInWord_1 ⟨Nat.zero_le _, Nat.zero_le _⟩) ?_
  refine lv_if_eq (tgt := 10) hx hb dX4_stepInWord_4 (by decide) (fun c1 => ?_) (fun c1 => ?_)
  · have c1 := bz_f c1
    have hf := ie_eq c1 hf
    refine lv_aload_n hx hb dX4_stepInWord_10 rfl (lv_at hl 0 rfl) ?_
    refine lv_aload_n hx hb dX4_stepInWord_11 rfl (lv_at hl 1 rfl) ?_
    refine lv_aload_n hx hb dX4_stepInWord_12 rfl (lv_at hl 0 rfl) ?_
    refine va_get (D := (dC, dI)) (ci := 2) (v := .int (rd.1 2)) (C := RX4) (T := TX4) (N := 8) hx hb hts hin4 hown hK hP 0 rfl rfl 4 (by decide) fl30 (fun _ h9 => h9) rfl dX4_stepInWord_13 ?_
    refine lv_iload_n hx hb dX4_stepInWord_16 rfl (lv_at hl 3 rfl) ?_
    have hPc := hP.sub (ws' := xw qx cI x) [3, 4] rfl
    refine gro_e (ad := eA) (va_runV (As := [.int (rd.1 2), .int a3]) (rest := [.ref (qd 0)]) ⟨hx, hb, hml, hown, hts⟩ (mX5_commandAt l dC dI cI cB cO cL N0 sT eA qx x (rd.1 2) a3  ) (cwV 2 hts gX4_stepInWord_X5_commandAt rfl rfl rfl (by decide +kernel) ⟨Nat.le_of_ble_eq_true rfl, Nat.le_of_ble_eq_true rfl⟩) ⟨fP_blind, va_recv hK hPc (ci := 3) (q0 := 0) rfl rfl, fP_ok hPc hK hF hS hN⟩ rfl rfl hl.1 rfl (lv_room (Nat.le_of_ble_eq_true rfl)) dX4_stepInWord_17 ⟨Nat.zero_le _, Nat.zero_le _⟩) ?_
    refine va_put (D := (dC, dI)) (ci := 2) (v := va_re eA (pX5_commandAt x (rd.1 2) a3)) (ty := (.object "ClickBench$Command")) (C := RX4) (T := TX4) (N := 8) hx hb hts hin4 tyX4 tyX4_ok nmX4 hown hK hP (gD_va hD rfl) hS 0 rfl rfl 5 (by decide) fl33 (fun _ h9 => h9) rfl (by decide +kernel) (re_narrow _ _) (re_fits _ _) (Nat.le_of_ble_eq_true rfl) dX4_stepInWord_20 (fun H locs hP _ hS => ?_)
    obtain ⟨rd_2, erd_2⟩ : ∃ z9 : RS, z9 = dse rd (pX5_commandAt x (rd.1 2) a3) := ⟨_, rfl⟩
    have hP : va_P (dC, dI) vwCl (dw qd cI cO eA rd_2 ++ xw qx cI x) H := by rw [erd_2]; exact hP
    have hf := lt_eq erd_2 hf
    refine lv_aload_n hx hb dX4_stepInWord_23 rfl (lv_at hl 0 rfl) ?_
    refine va_get (D := (dC, dI)) (ci := 2) (v := va_re eA rd_2.2.2.2) (C := RX4) (T := TX4) (N := 8) hx hb hts hin4 hown hK hP 0 rfl rfl 5 (by decide) fl33 (fun _ h9 => h9) rfl dX4_stepInWord_24 ?_
    refine lv_ifnonnullE (ad := eA) (r := rd_2.2.2.2) (tgt := 35) hx hb dX4_stepInWord_27 (by decide) (fun c3 => ?_) (fun c3 => ?_)
    · have hf := ie_eq c3 hf
      refine lv_iload_n hx hb dX4_stepInWord_35 rfl (lv_at hl 2 rfl) ?_
      refine lv_bipush (v := 32) hx hb dX4_stepInWord_36 (by decide) ?_
      refine lv_icmp_eq (tgt := 43) hx hb dX4_stepInWord_38 (by decide) (fun c4 => ?_) (fun c4 => ?_)
      · have hf := it_eq c4 hf
        refine lv_aload_n hx hb dX4_stepInWord_43 rfl (lv_at hl 0 rfl) ?_
        refine lv_iconst (v := 0) hx hb dX4_stepInWord_44 (by decide) ?_
        refine va_put (D := (dC, dI)) (ci := 2) (v := .int 0) (ty := .int) (C := RX4) (T := TX4) (N := 8) hx hb hts hin4 tyX4 tyX4_ok nmX4 hown hK hP (gD_va hD rfl) hS 0 rfl rfl 6 (by decide) fl37 (fun _ h9 => h9) rfl (by decide +kernel) rfl rfl (Nat.le_of_ble_eq_true rfl) dX4_stepInWord_45 (fun H locs hP _ hS => ?_)
        obtain ⟨rd_5, erd_5⟩ : ∃ z9 : RS, z9 = dsi rd_2 3 0 := ⟨_, rfl⟩
        have hP : va_P (dC, dI) vwCl (dw qd cI cO eA rd_5 ++ xw qx cI x) H := by rw [erd_5]; exact hP
        have hf := lt_eq erd_5 hf
        refine lv_aload_n hx hb dX4_stepInWord_48 rfl (lv_at hl 0 rfl) ?_
        refine lv_iconst (v := 2) hx hb dX4_stepInWord_49 (by decide) ?_
        refine va_put (D := (dC, dI)) (ci := 2) (v := .int 2) (ty := .int) (C := RX4) (T := TX4) (N := 8) hx hb hts hin4 tyX4 tyX4_ok nmX4 hown hK hP (gD_va hD rfl) hS 0 rfl rfl 3 (by decide) fl27 (fun _ h9 => h9) rfl (by decide +kernel) rfl rfl (Nat.le_of_ble_eq_true rfl) dX4_stepInWord_50 (fun H locs hP _ hS => ?_)
        obtain ⟨rd_6, erd_6⟩ : ∃ z9 : RS, z9 = dsi rd_5 1 2 := ⟨_, rfl⟩
        have hP : va_P (dC, dI) vwCl (dw qd cI cO eA rd_6 ++ xw qx cI x) H := by rw [erd_6]; exact hP
        have hf := lt_eq erd_6 hf
        refine lv_ldc (v := (-1000000000)) hx hb hown cn54 dX4_stepInWord_53 ?_
        exact e_mi C0 (hf.symm.trans hFe) hP hS dX4_stepInWord_55
      · have hf := ie_eq c4 hf
        refine lv_iload_n hx hb dX4_stepInWord_41 rfl (lv_at hl 3 rfl) ?_
        exact e_mi C0 (hf.symm.trans hFe) hP hS dX4_stepInWord_42
    · have hf := it_eq c3 hf
      refine lv_aload_n hx hb dX4_stepInWord_30 rfl (lv_at hl 0 rfl) ?_
      refine va_get (D := (dC, dI)) (ci := 2) (v := .int (rd_2.1 2)) (C := RX4) (T := TX4) (N := 8) hx hb hts hin4 hown hK hP 0 rfl rfl 4 (by decide) fl30 (fun _ h9 => h9) rfl dX4_stepInWord_31 ?_
      exact e_mi C0 (hf.symm.trans hFe) hP hS dX4_stepInWord_34
  · have c1 := bz_t c1
    have hf := it_eq c1 hf
    refine lv_ldc (v := (-1000000000)) hx hb hown cn54 dX4_stepInWord_7 ?_
    exact e_mi C0 (hf.symm.trans hFe) hP hS dX4_stepInWord_9
noncomputable def pX4_stepInGap (rd : RS) (a1 : Int32) (a2 : Int32) : Int32 × RS := if a1 = 32 then (((-1000000000), rd)) else (if a1 = 59 then (bd (pX4_endCommand rd a2) fun (r12 : Int32) (u13 : RS) => (r12, u13)) else (if (pX4_isDigit a1) = true then (if (pX4_hasAllNumbers rd) = true then ((a2, rd)) else (lt (pX4_putNumber rd (a1 - 48)) fun (u8 : RS) => lt (dsi u8 4 1) fun (rd_9 : RS) => lt (dsi rd_9 1 3) fun (rd_10 : RS) => ((-1000000000), rd_10))) else ((a2, rd))))
def kX4_stepInGap (rd : RS) (a1 : Int32) (a2 : Int32) : Prop := if a1 = 32 then (True) else (if a1 = 59 then (kX4_endCommand rd a2) else (if (pX4_isDigit a1) = true then ((kX4_hasAllNumbers rd) ∧ (if (pX4_hasAllNumbers rd) = true then (True) else (kX4_putNumber rd (a1 - 48)))) else (True)))
abbrev rX4_stepInGap : Room := { frames := 2, cells := 0, slots := 0, locals := 42 }
set_option maxHeartbeats 4000000 in
set_option maxRecDepth 100000 in
theorem mX4_stepInGap (l : Launch) (dC : Nat → ClassId) (dI : Nat → Nat → Nat) (cI cB cO cL : ClassId) (N0 : Nat) (sT eA : Nat → Nat) (qd : Nat → Nat) (rd : RS) (a1 : Int32) (a2 : Int32) (hI : gD (fun _ => True) (dAd qd)) (hN9 : ∀ a ∈ (dAd qd : List Nat), N0 ≤ a) (hok : kX4_stepInGap rd a1 a2) : Met l yX4_stepInGap wsX4_stepInGap rX4_stepInGap (fP N0 sT eA (dC, dI) (tYS cI cB cO cL) (dw qd cI cO eA rd) [.ref (qd 0), .int a1, .int a2]) (gQi (dC, dI) (fun z9 => dw qd cI cO eA z9) (wA (dw qd cI cO eA rd)) (pX4_stepInGap rd a1 a2)) 0 0 (wA (dw qd cI cO eA rd)) := by
  refine fMet (cc := cX4_stepInGap) (maxL := 3) (ret := some .int) [(0, .ref (qd 0)), (1, .int a1), (2, .int a2)] (by decide) rfl rfl rfl ?_
  intro p e s mi below meth c C0 hK hF hP ls hl
  obtain ⟨hx, hb, hr, hml, hown, hts, hlocks⟩ := id C0
  have hown : s.vm.findClass RX4 = some mi.cls := hown
  have hE := hF.1
  have hN : ∀ q : Nat, (wA (dw qd cI cO eA rd)) q → N0 ≤ q := wA_N (ws := dw qd cI cO eA rd) hN9
  have hH := hF.2.2.narrow hN
  have hS : va_S (wA (dw qd cI cO eA rd)) s.heap s.heap [] := va_S.rf
  have hD : gD (wA (dw qd cI cO eA rd)) (dAd qd) := gD_wA (ws := dw qd cI cO eA rd) hI
  have hP : va_P (dC, dI) vwCl (dw qd cI cO eA rd) s.heap := hP
  obtain ⟨F, hFe⟩ : ∃ F, F = pX4_stepInGap rd a1 a2 := ⟨_, rfl⟩
  have hf := hFe
  have hin4 : ∀ w ∈ u_ws RX4 TX4 8, w ∈ wsX4_stepInGap := by decide +kernel
  have fl40 := hts (.fieldLink RX4 40 "ClickBench$CommandReader" "digits" "I") (by decide +kernel)
  have fl27 := hts (.fieldLink RX4 27 "ClickBench$CommandReader" "place" "I") (by decide +kernel)
  have cn54 := hts (.constant RX4 54 (-1000000000)) (by decide +kernel)
  refine lv_iload_n hx hb dX4_stepInGap_0 rfl (lv_at hl 1 rfl) ?_
  refine lv_bipush (v := 32) hx hb dX4_stepInGap_1 (by decide) ?_
  refine lv_icmp_ne (tgt := 9) hx hb dX4_stepInGap_3 (by decide) (fun c1 => ?_) (fun c1 => ?_)
  · have hf := ie_eq c1 hf
    have hok := ie_ok c1 hok
    refine lv_iload_n hx hb dX4_stepInGap_9 rfl (lv_at hl 1 rfl) ?_
    refine lv_bipush (v := 59) hx hb dX4_stepInGap_10 (by decide) ?_
    refine lv_icmp_ne (tgt := 21) hx hb dX4_stepInGap_12 (by decide) (fun c2 => ?_) (fun c2 => ?_)
    · have hf := ie_eq c2 hf
      have hok := ie_ok c2 hok
      refine lv_iload_n hx hb dX4_stepInGap_21 rfl (lv_at hl 1 rfl) ?_
      refine gro_i (va_runS (As := [.int a1]) (rest := []) ⟨hx, hb, hml, hown, hts⟩ (mX4_isDigit l dC dI cI cB cO cL  a1  ) (va_cwS 1 hts gX4_stepInGap_X4_isDigit rfl rfl rfl (by decide +kernel) ⟨Nat.le_of_ble_eq_true rfl, Nat.le_of_ble_eq_true rfl⟩) ⟨cP_blind, cP_ok va_P_nil hK hE⟩ rfl rfl hl.1 rfl (lv_room (Nat.le_of_ble_eq_true rfl)) dX4_stepInGap_22 ⟨Nat.zero_le _, Nat.zero_le _⟩) ?_
      refine lv_if_eq (tgt := 35) hx hb dX4_stepInGap_25 (by decide) (fun c3 => ?_) (fun c3 => ?_)
      · have c3 := bz_f c3
        have hf := ie_eq c3 hf
        refine lv_iload_n hx hb dX4_stepInGap_35 rfl (lv_at hl 2 rfl) ?_
        exact e_mi C0 (hf.symm.trans hFe) hP hS dX4_stepInGap_36
      · have c3 := bz_t c3
        have hf := it_eq c3 hf
        have hok := it_ok c3 hok
        refine lv_aload_n hx hb dX4_stepInGap_28 rfl (lv_at hl 0 rfl) ?_
        obtain ⟨h4, hok⟩ := hok
        refine gro_i (va_runV (As := []) (rest := []) ⟨hx, hb, hml, hown, hts⟩ (mX4_hasAllNumbers l dC dI cI cB cO cL N0 sT eA qd rd  h4) (cwV 0 hts gX4_stepInGap_X4_hasAllNumbers rfl rfl rfl (by decide +kernel) ⟨Nat.le_of_ble_eq_true rfl, Nat.le_of_ble_eq_true rfl⟩) ⟨fP_blind, va_recv hK hP (ci := 2) (q0 := 0) rfl rfl, fP_ok hP hK hF hS hN⟩ rfl rfl hl.1 rfl (lv_room (Nat.le_of_ble_eq_true rfl)) dX4_stepInGap_29 ⟨Nat.zero_le _, Nat.zero_le _⟩) ?_
        refine lv_if_eq (tgt := 37) hx hb dX4_stepInGap_32 (by decide) (fun c5 => ?_) (fun c5 => ?_)
        · have c5 := bz_f c5
          have hf := ie_eq c5 hf
          have hok := ie_ok c5 hok
          refine lv_aload_n hx hb dX4_stepInGap_37 rfl (lv_at hl 0 rfl) ?_
          refine lv_iload_n hx hb dX4_stepInGap_38 rfl (lv_at hl 1 rfl) ?_
          refine lv_bipush (v := 48) hx hb dX4_stepInGap_39 (by decide) ?_
          refine lv_isub hx hb dX4_stepInGap_41 ?_
          have h6 : kX4_putNumber rd (a1 - 48) := hok
          refine gms_v (va_runV (As := [.int (a1 - 48)]) (rest := []) ⟨hx, hb, hml, hown, hts⟩ (mX4_putNumber l dC dI cI cB cO cL N0 sT eA qd rd (a1 - 48) (gD_any hD) hN9 h6) (cwV 1 hts gX4_stepInGap_X4_putNumber rfl rfl rfl (by decide +kernel) ⟨Nat.le_of_ble_eq_true rfl, Nat.le_of_ble_eq_true rfl⟩) ⟨fP_blind, va_recv hK hP (ci := 2) (q0 := 0) rfl rfl, fP_ok hP hK hF hS hN⟩ rfl rfl hl.1 rfl (lv_room (Nat.le_of_ble_eq_true rfl)) dX4_stepInGap_42 ⟨Nat.zero_le _, Nat.zero_le _⟩) hP (gD_va hD rfl) hS (fun u8 H locs hw hP hS => ?_)
          have hP : va_P (dC, dI) vwCl (dw qd cI cO eA u8) H := hP
          have hf := lt_eq hw hf
          refine lv_aload_n hx hb dX4_stepInGap_45 rfl (lv_at hl 0 rfl) ?_
          refine lv_iconst (v := 1) hx hb dX4_stepInGap_46 (by decide) ?_
          refine va_put (D := (dC, dI)) (ci := 2) (v := .int 1) (ty := .int) (C := RX4) (T := TX4) (N := 8) hx hb hts hin4 tyX4 tyX4_ok nmX4 hown hK hP (gD_va hD rfl) hS 0 rfl rfl 7 (by decide) fl40 (fun _ h9 => h9) rfl (by decide +kernel) rfl rfl (Nat.le_of_ble_eq_true rfl) dX4_stepInGap_47 (fun H locs hP _ hS => ?_)
          obtain ⟨rd_9, erd_9⟩ : ∃ z9 : RS, z9 = dsi u8 4 1 := ⟨_, rfl⟩
          have hP : va_P (dC, dI) vwCl (dw qd cI cO eA rd_9) H := by rw [erd_9]; exact hP
          have hf := lt_eq erd_9 hf
          refine lv_aload_n hx hb dX4_stepInGap_50 rfl (lv_at hl 0 rfl) ?_
          refine lv_iconst (v := 3) hx hb dX4_stepInGap_51 (by decide) ?_
          refine va_put (D := (dC, dI)) (ci := 2) (v := .int 3) (ty := .int) (C := RX4) (T := TX4) (N := 8) hx hb hts hin4 tyX4 tyX4_ok nmX4 hown hK hP (gD_va hD rfl) hS 0 rfl rfl 3 (by decide) fl27 (fun _ h9 => h9) rfl (by decide +kernel) rfl rfl (Nat.le_of_ble_eq_true rfl) dX4_stepInGap_52 (fun H locs hP _ hS => ?_)
          obtain ⟨rd_10, erd_10⟩ : ∃ z9 : RS, z9 = dsi rd_9 1 3 := ⟨_, rfl⟩
          have hP : va_P (dC, dI) vwCl (dw qd cI cO eA rd_10) H := by rw [erd_10]; exact hP
          have hf := lt_eq erd_10 hf
          refine lv_ldc (v := (-1000000000)) hx hb hown cn54 dX4_stepInGap_55 ?_
          exact e_mi C0 (hf.symm.trans hFe) hP hS dX4_stepInGap_57
        · have c5 := bz_t c5
          have hf := it_eq c5 hf
          refine lv_iload_n hx hb dX4_stepInGap_35 rfl (lv_at hl 2 rfl) ?_
          exact e_mi C0 (hf.symm.trans hFe) hP hS dX4_stepInGap_36
    · have hf := it_eq c2 hf
      have hok := it_ok c2 hok
      refine lv_aload_n hx hb dX4_stepInGap_15 rfl (lv_at hl 0 rfl) ?_
      refine lv_iload_n hx hb dX4_stepInGap_16 rfl (lv_at hl 2 rfl) ?_
      have h11 : kX4_endCommand rd a2 := hok
      refine gms_i (va_runV (As := [.int a2]) (rest := []) ⟨hx, hb, hml, hown, hts⟩ (mX4_endCommand l dC dI cI cB cO cL N0 sT eA qd rd a2 (gD_any hD) hN9 h11) (cwV 1 hts gX4_stepInGap_X4_endCommand rfl rfl rfl (by decide +kernel) ⟨Nat.le_of_ble_eq_true rfl, Nat.le_of_ble_eq_true rfl⟩) ⟨fP_blind, va_recv hK hP (ci := 2) (q0 := 0) rfl rfl, fP_ok hP hK hF hS hN⟩ rfl rfl hl.1 rfl (lv_room (Nat.le_of_ble_eq_true rfl)) dX4_stepInGap_17 ⟨Nat.zero_le _, Nat.zero_le _⟩) hP (gD_va hD rfl) hS (fun r12 u13 H locs hw hP hS => ?_)
      have hP : va_P (dC, dI) vwCl (dw qd cI cO eA u13) H := hP
      have hf := bd_eq hw hf
      exact e_mi C0 (hf.symm.trans hFe) hP hS dX4_stepInGap_20
  · have hf := it_eq c1 hf
    refine lv_ldc (v := (-1000000000)) hx hb hown cn54 dX4_stepInGap_6 ?_
    exact e_mi C0 (hf.symm.trans hFe) hP hS dX4_stepInGap_8
noncomputable def pX4_stepInNumber (rd : RS) (a1 : Int32) (a2 : Int32) : Int32 × RS := if a1 = 32 then (lt (dsi rd 3 ((rd.1 3) + 1)) fun (rd_14 : RS) => lt (dsi rd_14 1 2) fun (rd_15 : RS) => ((-1000000000), rd_15)) else (if a1 = 59 then (lt (dsi rd 3 ((rd.1 3) + 1)) fun (rd_10 : RS) => bd (pX4_endCommand rd_10 a2) fun (r12 : Int32) (u13 : RS) => (r12, u13)) else (if (pX4_isDigit a1) = true then (if (rd.1 4) < 5 then (lt (pX4_putNumber rd (((10 * (pX4_numberOf rd (rd.1 0) (rd.1 3))) + a1) - 48)) fun (u8 : RS) => lt (dsi u8 4 ((u8.1 4) + 1)) fun (rd_9 : RS) => ((-1000000000), rd_9)) else ((a2, rd))) else ((a2, rd))))
def kX4_stepInNumber (rd : RS) (a1 : Int32) (a2 : Int32) : Prop := if a1 = 32 then (True) else (if a1 = 59 then (lt (dsi rd 3 ((rd.1 3) + 1)) fun (rd_10 : RS) => kX4_endCommand rd_10 a2) else (if (pX4_isDigit a1) = true then (if (rd.1 4) < 5 then ((kX4_numberOf rd (rd.1 0) (rd.1 3)) ∧ (kX4_putNumber rd (((10 * (pX4_numberOf rd (rd.1 0) (rd.1 3))) + a1) - 48))) else (True)) else (True)))
abbrev rX4_stepInNumber : Room := { frames := 2, cells := 0, slots := 0, locals := 45 }
set_option maxHeartbeats 4000000 in
set_option maxRecDepth 100000 in
theorem mX4_stepInNumber (l : Launch) (dC : Nat → ClassId) (dI : Nat → Nat → Nat) (cI cB cO cL : ClassId) (N0 : Nat) (sT eA : Nat → Nat) (qd : Nat → Nat) (rd : RS) (a1 : Int32) (a2 : Int32) (hI : gD (fun _ => True) (dAd qd)) (hN9 : ∀ a ∈ (dAd qd : List Nat), N0 ≤ a) (hok : kX4_stepInNumber rd a1 a2) : Met l yX4_stepInNumber wsX4_stepInNumber rX4_stepInNumber (fP N0 sT eA (dC, dI) (tYS cI cB cO cL) (dw qd cI cO eA rd) [.ref (qd 0), .int a1, .int a2]) (gQi (dC, dI) (fun z9 => dw qd cI cO eA z9) (wA (dw qd cI cO eA rd)) (pX4_stepInNumber rd a1 a2)) 0 0 (wA (dw qd cI cO eA rd)) := by
  refine fMet (cc := cX4_stepInNumber) (maxL := 3) (ret := some .int) [(0, .ref (qd 0)), (1, .int a1), (2, .int a2)] (by decide) rfl rfl rfl ?_
  intro p e s mi below meth c C0 hK hF hP ls hl
  obtain ⟨hx, hb, hr, hml, hown, hts, hlocks⟩ := id C0
  have hown : s.vm.findClass RX4 = some mi.cls := hown
  have hE := hF.1
  have hN : ∀ q : Nat, (wA (dw qd cI cO eA rd)) q → N0 ≤ q := wA_N (ws := dw qd cI cO eA rd) hN9
  have hH := hF.2.2.narrow hN
  have hS : va_S (wA (dw qd cI cO eA rd)) s.heap s.heap [] := va_S.rf
  have hD : gD (wA (dw qd cI cO eA rd)) (dAd qd) := gD_wA (ws := dw qd cI cO eA rd) hI
  have hP : va_P (dC, dI) vwCl (dw qd cI cO eA rd) s.heap := hP
  obtain ⟨F, hFe⟩ : ∃ F, F = pX4_stepInNumber rd a1 a2 := ⟨_, rfl⟩
  have hf := hFe
  have hin4 : ∀ w ∈ u_ws RX4 TX4 8, w ∈ wsX4_stepInNumber := by decide +kernel
  have fl40 := hts (.fieldLink RX4 40 "ClickBench$CommandReader" "digits" "I") (by decide +kernel)
  have fl23 := hts (.fieldLink RX4 23 "ClickBench$CommandReader" "count" "I") (by decide +kernel)
  have fl37 := hts (.fieldLink RX4 37 "ClickBench$CommandReader" "numbersRead" "I") (by decide +kernel)
  have cn54 := hts (.constant RX4 54 (-1000000000)) (by decide +kernel)
  have fl27 := hts (.fieldLink RX4 27 "ClickBench$CommandReader" "place" "I") (by decide +kernel)
  refine lv_iload_n hx hb dX4_stepInNumber_0 rfl (lv_at hl 1 rfl) ?_
  refine lv_bipush (v := 32) hx hb dX4_stepInNumber_1 (by decide) ?_
  refine lv_icmp_ne (tgt := 24) hx hb dX4_stepInNumber_3 (by decide) (fun c1 => ?_) (fun c1 => ?_)
  · have hf := ie_eq c1 hf
    have hok := ie_ok c1 hok
    refine lv_iload_n hx hb dX4_stepInNumber_24 rfl (lv_at hl 1 rfl) ?_
    refine lv_bipush (v := 59) hx hb dX4_stepInNumber_25 (by decide) ?_
    refine lv_icmp_ne (tgt := 46) hx hb dX4_stepInNumber_27 (by decide) (fun c2 => ?_) (fun c2 => ?_)
    · have hf := ie_eq c2 hf
      have hok := ie_ok c2 hok
      refine lv_iload_n hx hb dX4_stepInNumber_46 rfl (lv_at hl 1 rfl) ?_
      refine gro_i (va_runS (As := [.int a1]) (rest := []) ⟨hx, hb, hml, hown, hts⟩ (mX4_isDigit l dC dI cI cB cO cL  a1  ) (va_cwS 1 hts gX4_stepInNumber_X4_isDigit rfl rfl rfl (by decide +kernel) ⟨Nat.le_of_ble_eq_true rfl, Nat.le_of_ble_eq_true rfl⟩) ⟨cP_blind, cP_ok va_P_nil hK hE⟩ rfl rfl hl.1 rfl (lv_room (Nat.le_of_ble_eq_true rfl)) dX4_stepInNumber_47 ⟨Nat.zero_le _, Nat.zero_le _⟩) ?_
      refine lv_if_eq (tgt := 61) hx hb dX4_stepInNumber_50 (by decide) (fun c3 => ?_) (fun c3 => ?_)
      · have c3 := bz_f c3
        have hf := ie_eq c3 hf
        refine lv_iload_n hx hb dX4_stepInNumber_61 rfl (lv_at hl 2 rfl) ?_
        exact e_mi C0 (hf.symm.trans hFe) hP hS dX4_stepInNumber_62
      · have c3 := bz_t c3
        have hf := it_eq c3 hf
        have hok := it_ok c3 hok
        refine lv_aload_n hx hb dX4_stepInNumber_53 rfl (lv_at hl 0 rfl) ?_
        refine va_get (D := (dC, dI)) (ci := 2) (v := .int (rd.1 4)) (C := RX4) (T := TX4) (N := 8) hx hb hts hin4 hown hK hP 0 rfl rfl 7 (by decide) fl40 (fun _ h9 => h9) rfl dX4_stepInNumber_54 ?_
        refine lv_iconst (v := 5) hx hb dX4_stepInNumber_57 (by decide) ?_
        refine lv_icmp_lt (tgt := 63) hx hb dX4_stepInNumber_58 (by decide) (fun c4 => ?_) (fun c4 => ?_)
        · have hf := it_eq c4 hf
          have hok := it_ok c4 hok
          refine lv_aload_n hx hb dX4_stepInNumber_63 rfl (lv_at hl 0 rfl) ?_
          refine lv_bipush (v := 10) hx hb dX4_stepInNumber_64 (by decide) ?_
          refine lv_aload_n hx hb dX4_stepInNumber_66 rfl (lv_at hl 0 rfl) ?_
          refine lv_aload_n hx hb dX4_stepInNumber_67 rfl (lv_at hl 0 rfl) ?_
          refine va_get (D := (dC, dI)) (ci := 2) (v := .int (rd.1 0)) (C := RX4) (T := TX4) (N := 8) hx hb hts hin4 hown hK hP 0 rfl rfl 2 (by decide) fl23 (fun _ h9 => h9) rfl dX4_stepInNumber_68 ?_
          refine lv_aload_n hx hb dX4_stepInNumber_71 rfl (lv_at hl 0 rfl) ?_
          refine va_get (D := (dC, dI)) (ci := 2) (v := .int (rd.1 3)) (C := RX4) (T := TX4) (N := 8) hx hb hts hin4 hown hK hP 0 rfl rfl 6 (by decide) fl37 (fun _ h9 => h9) rfl dX4_stepInNumber_72 ?_
          obtain ⟨h5, hok⟩ := hok
          refine gro_i (va_runV (As := [.int (rd.1 0), .int (rd.1 3)]) (rest := [.int 10, .ref (qd 0)]) ⟨hx, hb, hml, hown, hts⟩ (mX4_numberOf l dC dI cI cB cO cL N0 sT eA qd rd (rd.1 0) (rd.1 3)  h5) (cwV 2 hts gX4_stepInNumber_X4_numberOf rfl rfl rfl (by decide +kernel) ⟨Nat.le_of_ble_eq_true rfl, Nat.le_of_ble_eq_true rfl⟩) ⟨fP_blind, va_recv hK hP (ci := 2) (q0 := 0) rfl rfl, fP_ok hP hK hF hS hN⟩ rfl rfl hl.1 rfl (lv_room (Nat.le_of_ble_eq_true rfl)) dX4_stepInNumber_75 ⟨Nat.zero_le _, Nat.zero_le _⟩) ?_
          refine lv_imul hx hb dX4_stepInNumber_78 ?_
          refine lv_iload_n hx hb dX4_stepInNumber_79 rfl (lv_at hl 1 rfl) ?_
          refine lv_iadd hx hb dX4_stepInNumber_80 ?_
          refine lv_bipush (v := 48) hx hb dX4_stepInNumber_81 (by decide) ?_
          refine lv_isub hx hb dX4_stepInNumber_83 ?_
          have h6 : kX4_putNumber rd (((10 * (pX4_numberOf rd (rd.1 0) (rd.1 3))) + a1) - 48) := hok
          refine gms_v (va_runV (As := [.int (((10 * (pX4_numberOf rd (rd.1 0) (rd.1 3))) + a1) - 48)]) (rest := []) ⟨hx, hb, hml, hown, hts⟩ (mX4_putNumber l dC dI cI cB cO cL N0 sT eA qd rd (((10 * (pX4_numberOf rd (rd.1 0) (rd.1 3))) + a1) - 48) (gD_any hD) hN9 h6) (cwV 1 hts gX4_stepInNumber_X4_putNumber rfl rfl rfl (by decide +kernel) ⟨Nat.le_of_ble_eq_true rfl, Nat.le_of_ble_eq_true rfl⟩) ⟨fP_blind, va_recv hK hP (ci := 2) (q0 := 0) rfl rfl, fP_ok hP hK hF hS hN⟩ rfl rfl hl.1 rfl (lv_room (Nat.le_of_ble_eq_true rfl)) dX4_stepInNumber_84 ⟨Nat.zero_le _, Nat.zero_le _⟩) hP (gD_va hD rfl) hS (fun u8 H locs hw hP hS => ?_)
          have hP : va_P (dC, dI) vwCl (dw qd cI cO eA u8) H := hP
          have hf := lt_eq hw hf
          refine lv_aload_n hx hb dX4_stepInNumber_87 rfl (lv_at hl 0 rfl) ?_
          refine lv_dup hx hb dX4_stepInNumber_88 rfl ?_
          refine va_get (D := (dC, dI)) (ci := 2) (v := .int (u8.1 4)) (C := RX4) (T := TX4) (N := 8) hx hb hts hin4 hown hK hP 0 rfl rfl 7 (by decide) fl40 (fun _ h9 => h9) rfl dX4_stepInNumber_89 ?_
          refine lv_iconst (v := 1) hx hb dX4_stepInNumber_92 (by decide) ?_
          refine lv_iadd hx hb dX4_stepInNumber_93 ?_
          refine va_put (D := (dC, dI)) (ci := 2) (v := .int ((u8.1 4) + 1)) (ty := .int) (C := RX4) (T := TX4) (N := 8) hx hb hts hin4 tyX4 tyX4_ok nmX4 hown hK hP (gD_va hD rfl) hS 0 rfl rfl 7 (by decide) fl40 (fun _ h9 => h9) rfl (by decide +kernel) rfl rfl (Nat.le_of_ble_eq_true rfl) dX4_stepInNumber_94 (fun H locs hP _ hS => ?_)
          obtain ⟨rd_9, erd_9⟩ : ∃ z9 : RS, z9 = dsi u8 4 ((u8.1 4) + 1) := ⟨_, rfl⟩
          have hP : va_P (dC, dI) vwCl (dw qd cI cO eA rd_9) H := by rw [erd_9]; exact hP
          have hf := lt_eq erd_9 hf
          refine lv_ldc (v := (-1000000000)) hx hb hown cn54 dX4_stepInNumber_97 ?_
          exact e_mi C0 (hf.symm.trans hFe) hP hS dX4_stepInNumber_99
        · have hf := ie_eq c4 hf
          refine lv_iload_n hx hb dX4_stepInNumber_61 rfl (lv_at hl 2 rfl) ?_
          exact e_mi C0 (hf.symm.trans hFe) hP hS dX4_stepInNumber_62
    · have hf := it_eq c2 hf
      have hok := it_ok c2 hok
      refine lv_aload_n hx hb dX4_stepInNumber_30 rfl (lv_at hl 0 rfl) ?_
      refine lv_dup hx hb dX4_stepInNumber_31 rfl ?_
      refine va_get (D := (dC, dI)) (ci := 2) (v := .int (rd.1 3)) (C := RX4) (T := TX4) (N := 8) hx hb hts hin4 hown hK hP 0 rfl rfl 6 (by decide) fl37 (fun _ h9 => h9) rfl dX4_stepInNumber_32 ?_
      refine lv_iconst (v := 1) hx hb dX4_stepInNumber_35 (by decide) ?_
      refine lv_iadd hx hb dX4_stepInNumber_36 ?_
      refine va_put (D := (dC, dI)) (ci := 2) (v := .int ((rd.1 3) + 1)) (ty := .int) (C := RX4) (T := TX4) (N := 8) hx hb hts hin4 tyX4 tyX4_ok nmX4 hown hK hP (gD_va hD rfl) hS 0 rfl rfl 6 (by decide) fl37 (fun _ h9 => h9) rfl (by decide +kernel) rfl rfl (Nat.le_of_ble_eq_true rfl) dX4_stepInNumber_37 (fun H locs hP _ hS => ?_)
      obtain ⟨rd_10, erd_10⟩ : ∃ z9 : RS, z9 = dsi rd 3 ((rd.1 3) + 1) := ⟨_, rfl⟩
      have hP : va_P (dC, dI) vwCl (dw qd cI cO eA rd_10) H := by rw [erd_10]; exact hP
      have hf := lt_eq erd_10 hf
      have hok := lt_ok erd_10 hok
      refine lv_aload_n hx hb dX4_stepInNumber_40 rfl (lv_at hl 0 rfl) ?_
      refine lv_iload_n hx hb dX4_stepInNumber_41 rfl (lv_at hl 2 rfl) ?_
      have h11 : kX4_endCommand rd_10 a2 := hok
      refine gms_i (va_runV (As := [.int a2]) (rest := []) ⟨hx, hb, hml, hown, hts⟩ (mX4_endCommand l dC dI cI cB cO cL N0 sT eA qd rd_10 a2 (gD_any hD) hN9 h11) (cwV 1 hts gX4_stepInNumber_X4_endCommand rfl rfl rfl (by decide +kernel) ⟨Nat.le_of_ble_eq_true rfl, Nat.le_of_ble_eq_true rfl⟩) ⟨fP_blind, va_recv hK hP (ci := 2) (q0 := 0) rfl rfl, fP_ok hP hK hF hS hN⟩ rfl rfl hl.1 rfl (lv_room (Nat.le_of_ble_eq_true rfl)) dX4_stepInNumber_42 ⟨Nat.zero_le _, Nat.zero_le _⟩) hP (gD_va hD rfl) hS (fun r12 u13 H locs hw hP hS => ?_)
      have hP : va_P (dC, dI) vwCl (dw qd cI cO eA u13) H := hP
      have hf := bd_eq hw hf
      exact e_mi C0 (hf.symm.trans hFe) hP hS dX4_stepInNumber_45
  · have hf := it_eq c1 hf
    refine lv_aload_n hx hb dX4_stepInNumber_6 rfl (lv_at hl 0 rfl) ?_
    refine lv_dup hx hb dX4_stepInNumber_7 rfl ?_
    refine va_get (D := (dC, dI)) (ci := 2) (v := .int (rd.1 3)) (C := RX4) (T := TX4) (N := 8) hx hb hts hin4 hown hK hP 0 rfl rfl 6 (by decide) fl37 (fun _ h9 => h9) rfl dX4_stepInNumber_8 ?_
    refine lv_iconst (v := 1) hx hb dX4_stepInNumber_11 (by decide) ?_
    refine lv_iadd hx hb dX4_stepInNumber_12 ?_
    refine va_put (D := (dC, dI)) (ci := 2) (v := .int ((rd.1 3) + 1)) (ty := .int) (C := RX4) (T := TX4) (N := 8) hx hb hts hin4 tyX4 tyX4_ok nmX4 hown hK hP (gD_va hD rfl) hS 0 rfl rfl 6 (by decide) fl37 (fun _ h9 => h9) rfl (by decide +kernel) rfl rfl (Nat.le_of_ble_eq_true rfl) dX4_stepInNumber_13 (fun H locs hP _ hS => ?_)
    obtain ⟨rd_14, erd_14⟩ : ∃ z9 : RS, z9 = dsi rd 3 ((rd.1 3) + 1) := ⟨_, rfl⟩
    have hP : va_P (dC, dI) vwCl (dw qd cI cO eA rd_14) H := by rw [erd_14]; exact hP
    have hf := lt_eq erd_14 hf
    refine lv_aload_n hx hb dX4_stepInNumber_16 rfl (lv_at hl 0 rfl) ?_
    refine lv_iconst (v := 2) hx hb dX4_stepInNumber_17 (by decide) ?_
    refine va_put (D := (dC, dI)) (ci := 2) (v := .int 2) (ty := .int) (C := RX4) (T := TX4) (N := 8) hx hb hts hin4 tyX4 tyX4_ok nmX4 hown hK hP (gD_va hD rfl) hS 0 rfl rfl 3 (by decide) fl27 (fun _ h9 => h9) rfl (by decide +kernel) rfl rfl (Nat.le_of_ble_eq_true rfl) dX4_stepInNumber_18 (fun H locs hP _ hS => ?_)
    obtain ⟨rd_15, erd_15⟩ : ∃ z9 : RS, z9 = dsi rd_14 1 2 := ⟨_, rfl⟩
    have hP : va_P (dC, dI) vwCl (dw qd cI cO eA rd_15) H := by rw [erd_15]; exact hP
    have hf := lt_eq erd_15 hf
    refine lv_ldc (v := (-1000000000)) hx hb hown cn54 dX4_stepInNumber_21 ?_
    exact e_mi C0 (hf.symm.trans hFe) hP hS dX4_stepInNumber_23
noncomputable def pX4_step (rd : RS) (x : TS) (a2 : Int32) : Int32 × RS × TS := lt (pX5_byteAt x a2) fun (x2 : Int32) => if (rd.1 1) = 0 then (bd (pX4_stepInFront rd x2 a2) fun (r4 : Int32) (u5 : RS) => (r4, u5, x)) else (if (rd.1 1) = 1 then (bd (pX4_stepInWord rd x x2 a2) fun (r7 : Int32) (u8 : RS × TS) => (r7, u8.1, u8.2)) else (if (rd.1 1) = 2 then (bd (pX4_stepInGap rd x2 a2) fun (r11 : Int32) (u12 : RS) => (r11, u12, x)) else (bd (pX4_stepInNumber rd x2 a2) fun (r14 : Int32) (u15 : RS) => (r14, u15, x))))
def kX4_step (rd : RS) (x : TS) (a2 : Int32) : Prop := (kX5_byteAt x a2) ∧ (lt (pX5_byteAt x a2) fun (x2 : Int32) => if (rd.1 1) = 0 then (True) else (if (rd.1 1) = 1 then (True) else (if (rd.1 1) = 2 then (kX4_stepInGap rd x2 a2) else (kX4_stepInNumber rd x2 a2))))
abbrev rX4_step : Room := { frames := 7, cells := 0, slots := 0, locals := 158 }
set_option maxHeartbeats 4000000 in
set_option maxRecDepth 100000 in
theorem mX4_step (l : Launch) (dC : Nat → ClassId) (dI : Nat → Nat → Nat) (cI cB cO cL : ClassId) (N0 : Nat) (sT eA : Nat → Nat) (qd : Nat → Nat) (qx : Nat → Nat) (rd : RS) (x : TS) (a2 : Int32) (hI : gD (fun _ => True) (dAd qd ++ xAd qx)) (hN9 : ∀ a ∈ (dAd qd ++ xAd qx : List Nat), N0 ≤ a) (hok : kX4_step rd x a2) : Met l yX4_step wsX4_step rX4_step (fP N0 sT eA (dC, dI) (tYS cI cB cO cL) (dw qd cI cO eA rd ++ xw qx cI x) [.ref (qd 0), .ref (qx 0), .int a2]) (gQi (dC, dI) (fun z9 : RS × TS => dw qd cI cO eA z9.1 ++ xw qx cI z9.2) (wA (dw qd cI cO eA rd ++ xw qx cI x)) (pX4_step rd x a2)) 0 0 (wA (dw qd cI cO eA rd ++ xw qx cI x)) := by
  refine fMet (cc := cX4_step) (maxL := 4) (ret := some .int) [(0, .ref (qd 0)), (1, .ref (qx 0)), (2, .int a2)] (by decide) rfl rfl rfl ?_
  intro p e s mi below meth c C0 hK hF hP ls hl
  obtain ⟨hx, hb, hr, hml, hown, hts, hlocks⟩ := id C0
  have hown : s.vm.findClass RX4 = some mi.cls := hown
  have hE := hF.1
  have hN : ∀ q : Nat, (wA (dw qd cI cO eA rd ++ xw qx cI x)) q → N0 ≤ q := wA_N (ws := dw qd cI cO eA rd ++ xw qx cI x) hN9
  have hH := hF.2.2.narrow hN
  have hS : va_S (wA (dw qd cI cO eA rd ++ xw qx cI x)) s.heap s.heap [] := va_S.rf
  have hD : gD (wA (dw qd cI cO eA rd ++ xw qx cI x)) (dAd qd ++ xAd qx) := gD_wA (ws := dw qd cI cO eA rd ++ xw qx cI x) hI
  have hP : va_P (dC, dI) vwCl (dw qd cI cO eA rd ++ xw qx cI x) s.heap := hP
  obtain ⟨F, hFe⟩ : ∃ F, F = pX4_step rd x a2 := ⟨_, rfl⟩
  have hf := hFe
  have hin4 : ∀ w ∈ u_ws RX4 TX4 8, w ∈ wsX4_step := by decide +kernel
  have fl27 := hts (.fieldLink RX4 27 "ClickBench$CommandReader" "place" "I") (by decide +kernel)
  refine lv_aload_n hx hb dX4_step_0 rfl (lv_at hl 1 rfl) ?_
  refine lv_iload_n hx hb dX4_step_1 rfl (lv_at hl 2 rfl) ?_
  obtain ⟨h1, hok⟩ := hok
  have hPc := hP.sub (ws' := xw qx cI x) [3, 4] rfl
  refine gro_i (va_runV (As := [.int a2]) (rest := []) ⟨hx, hb, hml, hown, hts⟩ (mX5_byteAt l dC dI cI cB cO cL qx x a2  h1) (cwV 1 hts gX4_step_X5_byteAt rfl rfl rfl (by decide +kernel) ⟨Nat.le_of_ble_eq_true rfl, Nat.le_of_ble_eq_true rfl⟩) ⟨cP_blind, va_recv hK hPc (ci := 3) (q0 := 0) rfl rfl, cP_ok hPc hK hE⟩ rfl rfl hl.1 rfl (lv_room (Nat.le_of_ble_eq_true rfl)) dX4_step_2 ⟨Nat.zero_le _, Nat.zero_le _⟩) ?_
  refine lv_topi (fun x2 ex2 => ?_)
  have hf := lt_eq ex2 hf
  have hok := lt_ok ex2 hok
  refine lv_istore_n (lv' := [(3, .int x2), (0, .ref (qd 0)), (1, .ref (qx 0)), (2, .int a2)]) hx hb dX4_step_5 rfl hl (by decide) rfl (fun ls hl => ?_)
  refine lv_aload_n hx hb dX4_step_6 rfl (lv_at hl 1 rfl) ?_
  refine va_get (D := (dC, dI)) (ci := 2) (v := .int (rd.1 1)) (C := RX4) (T := TX4) (N := 8) hx hb hts hin4 hown hK hP 0 rfl rfl 3 (by decide) fl27 (fun _ h9 => h9) rfl dX4_step_7 ?_
  by_cases c3 : (rd.1 1) = 0
  · have hf := it_eq c3 hf
    refine lv_tableIn (tgt := 36) (off := 26) hx hb dX4_step_10 (by rw [c3]; decide) (by rw [c3]; decide) (by rw [c3]; rfl) (by decide) ?_
    refine lv_aload_n hx hb dX4_step_36 rfl (lv_at hl 1 rfl) ?_
    refine lv_iload_n hx hb dX4_step_37 rfl (lv_at hl 0 rfl) ?_
    refine lv_iload_n hx hb dX4_step_38 rfl (lv_at hl 3 rfl) ?_
    have hPc := hP.sub (ws' := dw qd cI cO eA rd) [0, 1, 2] rfl
    refine gmu_i (va_runV (As := [.int x2, .int a2]) (rest := []) ⟨hx, hb, hml, hown, hts⟩ (mX4_stepInFront l dC dI cI cB cO cL N0 sT eA qd rd x2 a2 (gD_subT hD [0, 1, 2] rfl rfl) (gN_sub hN9 [0, 1, 2] rfl) ) (cwV 2 hts gX4_step_X4_stepInFront rfl rfl rfl (by decide +kernel) ⟨Nat.le_of_ble_eq_true rfl, Nat.le_of_ble_eq_true rfl⟩) ⟨fP_blind, va_recv hK hPc (ci := 2) (q0 := 0) rfl rfl, fP_ok hPc hK hF hS hN⟩ rfl rfl hl.1 rfl (lv_room (Nat.le_of_ble_eq_true rfl)) dX4_step_39 ⟨Nat.zero_le _, Nat.zero_le _⟩) hP (gD_va hD rfl) hS [0, 1, 2] rfl (fun _ => rfl) (fun r4 u5 H locs hw hP hS => ?_)
    have hP : va_P (dC, dI) vwCl (dw qd cI cO eA u5 ++ xw qx cI x) H := hP
    have hf := bd_eq hw hf
    exact e_mi C0 (hf.symm.trans hFe) hP hS dX4_step_42
  · have hf := ie_eq c3 hf
    have hok := ie_ok c3 hok
    by_cases c6 : (rd.1 1) = 1
    · have hf := it_eq c6 hf
      refine lv_tableIn (tgt := 43) (off := 33) hx hb dX4_step_10 (by rw [c6]; decide) (by rw [c6]; decide) (by rw [c6]; rfl) (by decide) ?_
      refine lv_aload_n hx hb dX4_step_43 rfl (lv_at hl 1 rfl) ?_
      refine lv_aload_n hx hb dX4_step_44 rfl (lv_at hl 2 rfl) ?_
      refine lv_iload_n hx hb dX4_step_45 rfl (lv_at hl 0 rfl) ?_
      refine lv_iload_n hx hb dX4_step_46 rfl (lv_at hl 3 rfl) ?_
      refine gms_i (va_runV (As := [.ref (qx 0), .int x2, .int a2]) (rest := []) ⟨hx, hb, hml, hown, hts⟩ (mX4_stepInWord l dC dI cI cB cO cL N0 sT eA qd qx rd x x2 a2 (gD_any hD) hN9 ) (cwV 3 hts gX4_step_X4_stepInWord rfl rfl rfl (by decide +kernel) ⟨Nat.le_of_ble_eq_true rfl, Nat.le_of_ble_eq_true rfl⟩) ⟨fP_blind, va_recv hK hP (ci := 2) (q0 := 0) rfl rfl, fP_ok hP hK hF hS hN⟩ rfl rfl hl.1 rfl (lv_room (Nat.le_of_ble_eq_true rfl)) dX4_step_47 ⟨Nat.zero_le _, Nat.zero_le _⟩) hP (gD_va hD rfl) hS (fun r7 u8 H locs hw hP hS => ?_)
      have hP : va_P (dC, dI) vwCl (dw qd cI cO eA u8.1 ++ xw qx cI u8.2) H := hP
      have hf := bd_eq hw hf
      exact e_mi C0 (hf.symm.trans hFe) hP hS dX4_step_50
    · have hf := ie_eq c6 hf
      have hok := ie_ok c6 hok
      by_cases c9 : (rd.1 1) = 2
      · have hf := it_eq c9 hf
        have hok := it_ok c9 hok
        refine lv_tableIn (tgt := 51) (off := 41) hx hb dX4_step_10 (by rw [c9]; decide) (by rw [c9]; decide) (by rw [c9]; rfl) (by decide) ?_
        refine lv_aload_n hx hb dX4_step_51 rfl (lv_at hl 1 rfl) ?_
        refine lv_iload_n hx hb dX4_step_52 rfl (lv_at hl 0 rfl) ?_
        refine lv_iload_n hx hb dX4_step_53 rfl (lv_at hl 3 rfl) ?_
        have h10 : kX4_stepInGap rd x2 a2 := hok
        have hPc := hP.sub (ws' := dw qd cI cO eA rd) [0, 1, 2] rfl
        refine gmu_i (va_runV (As := [.int x2, .int a2]) (rest := []) ⟨hx, hb, hml, hown, hts⟩ (mX4_stepInGap l dC dI cI cB cO cL N0 sT eA qd rd x2 a2 (gD_subT hD [0, 1, 2] rfl rfl) (gN_sub hN9 [0, 1, 2] rfl) h10) (cwV 2 hts gX4_step_X4_stepInGap rfl rfl rfl (by decide +kernel) ⟨Nat.le_of_ble_eq_true rfl, Nat.le_of_ble_eq_true rfl⟩) ⟨fP_blind, va_recv hK hPc (ci := 2) (q0 := 0) rfl rfl, fP_ok hPc hK hF hS hN⟩ rfl rfl hl.1 rfl (lv_room (Nat.le_of_ble_eq_true rfl)) dX4_step_54 ⟨Nat.zero_le _, Nat.zero_le _⟩) hP (gD_va hD rfl) hS [0, 1, 2] rfl (fun _ => rfl) (fun r11 u12 H locs hw hP hS => ?_)
        have hP : va_P (dC, dI) vwCl (dw qd cI cO eA u12 ++ xw qx cI x) H := hP
        have hf := bd_eq hw hf
        exact e_mi C0 (hf.symm.trans hFe) hP hS dX4_step_57
      · have hf := ie_eq c9 hf
        have hok := ie_ok c9 hok
        refine lv_tableOut (tgt := 58) hx hb dX4_step_10 (by have h0_ := i32_ne (n := 0) rfl c3; have h1_ := i32_ne (n := 1) rfl c6; have h2_ := i32_ne (n := 2) rfl c9; omega) (by decide) ?_
        refine lv_aload_n hx hb dX4_step_58 rfl (lv_at hl 1 rfl) ?_
        refine lv_iload_n hx hb dX4_step_59 rfl (lv_at hl 0 rfl) ?_
        refine lv_iload_n hx hb dX4_step_60 rfl (lv_at hl 3 rfl) ?_
        have h13 : kX4_stepInNumber rd x2 a2 := hok
        have hPc := hP.sub (ws' := dw qd cI cO eA rd) [0, 1, 2] rfl
        refine gmu_i (va_runV (As := [.int x2, .int a2]) (rest := []) ⟨hx, hb, hml, hown, hts⟩ (mX4_stepInNumber l dC dI cI cB cO cL N0 sT eA qd rd x2 a2 (gD_subT hD [0, 1, 2] rfl rfl) (gN_sub hN9 [0, 1, 2] rfl) h13) (cwV 2 hts gX4_step_X4_stepInNumber rfl rfl rfl (by decide +kernel) ⟨Nat.le_of_ble_eq_true rfl, Nat.le_of_ble_eq_true rfl⟩) ⟨fP_blind, va_recv hK hPc (ci := 2) (q0 := 0) rfl rfl, fP_ok hPc hK hF hS hN⟩ rfl rfl hl.1 rfl (lv_room (Nat.le_of_ble_eq_true rfl)) dX4_step_61 ⟨Nat.zero_le _, Nat.zero_le _⟩) hP (gD_va hD rfl) hS [0, 1, 2] rfl (fun _ => rfl) (fun r14 u15 H locs hw hP hS => ?_)
        have hP : va_P (dC, dI) vwCl (dw qd cI cO eA u15 ++ xw qx cI x) H := hP
        have hf := bd_eq hw hf
        exact e_mi C0 (hf.symm.trans hFe) hP hS dX4_step_64
noncomputable def pX4_read_L79   (t0_79 : Bool) (rd_79 : RS) (x_79 : TS) : Int32 × RS × TS := if t0_79 = true then ((rd_79.1 2, rd_79, x_79)) else ((x_79.1, rd_79, x_79))
noncomputable def pX4_read_L78   (rd_78 : RS) (x_78 : TS) : Int32 × RS × TS := pX4_read_L79 false rd_78 x_78
noncomputable def bX4_read_L12   (q_12 : Int32 → RS → TS → (Int32 × RS × TS)) (v2_12 : Int32) (rd_12 : RS) (x_12 : TS) : Int32 × RS × TS := if x_12.1 ≤ v2_12 then (if (rd_12.1 1) = 0 then (((-1000000000), rd_12, x_12)) else (if (rd_12.1 1) = 1 then (if (pX5_commandAt x_12 (rd_12.1 2) x_12.1) = none then (pX4_read_L79 true rd_12 x_12) else (pX4_read_L78 rd_12 x_12)) else (pX4_read_L78 rd_12 x_12))) else (bd (pX4_step rd_12 x_12 v2_12) fun (r9 : Int32) (u10 : RS × TS) => if r9 = (-1000000000) then (lt (v2_12 + 1) fun (x12 : Int32) => q_12 x12 u10.1 u10.2) else ((r9, u10.1, u10.2)))
noncomputable def pX4_read_L12   : Nat → Int32 → RS → TS → (Int32 × RS × TS)
  | 0 => fun _ rd_12 x_12 => (0, rd_12, x_12)
  | n + 1 => bX4_read_L12   (pX4_read_L12   n)
def kbX4_read_L12   (Q_12 : Int32 → RS → TS → Prop) (v2_12 : Int32) (rd_12 : RS) (x_12 : TS) : Prop := if x_12.1 ≤ v2_12 then (True) else ((kX4_step rd_12 x_12 v2_12) ∧ (bd (pX4_step rd_12 x_12 v2_12) fun (r9 : Int32) (u10 : RS × TS) => if r9 = (-1000000000) then (lt (v2_12 + 1) fun (x12 : Int32) => Q_12 x12 u10.1 u10.2) else (True)))
noncomputable def kX4_read_L12   : Nat → Int32 → RS → TS → Prop
  | 0 => fun _ _ _ => False
  | n + 1 => kbX4_read_L12   (kX4_read_L12   n)
noncomputable def pX4_read (rd : RS) (x : TS) : Int32 × RS × TS := lt (dsi rd 0 0) fun (rd_1 : RS) => lt (dsi rd_1 1 0) fun (rd_2 : RS) => pX4_read_L12 fu 0 rd_2 x
def kX4_read (rd : RS) (x : TS) : Prop := lt (dsi rd 0 0) fun (rd_1 : RS) => lt (dsi rd_1 1 0) fun (rd_2 : RS) => kX4_read_L12 fu 0 rd_2 x
abbrev rX4_read : Room := { frames := 8, cells := 0, slots := 0, locals := 181 }
set_option maxHeartbeats 4000000 in
set_option maxRecDepth 100000 in
theorem mX4_read (l : Launch) (dC : Nat → ClassId) (dI : Nat → Nat → Nat) (cI cB cO cL : ClassId) (N0 : Nat) (sT eA : Nat → Nat) (qd : Nat → Nat) (qx : Nat → Nat) (rd : RS) (x : TS) (hI : gD (fun _ => True) (dAd qd ++ xAd qx)) (hN9 : ∀ a ∈ (dAd qd ++ xAd qx : List Nat), N0 ≤ a) (hok : kX4_read rd x) : Met l yX4_read wsX4_read rX4_read (fP N0 sT eA (dC, dI) (tYS cI cB cO cL) (dw qd cI cO eA rd ++ xw qx cI x) [.ref (qd 0), .ref (qx 0)]) (gQi (dC, dI) (fun z9 : RS × TS => dw qd cI cO eA z9.1 ++ xw qx cI z9.2) (wA (dw qd cI cO eA rd ++ xw qx cI x)) (pX4_read rd x)) 0 0 (wA (dw qd cI cO eA rd ++ xw qx cI x)) := by
  refine fMet (cc := cX4_read) (maxL := 4) (ret := some .int) [(0, .ref (qd 0)), (1, .ref (qx 0))] (by decide) rfl rfl rfl ?_
  intro p e s mi below meth c C0 hK hF hP ls hl
  obtain ⟨hx, hb, hr, hml, hown, hts, hlocks⟩ := id C0
  have hown : s.vm.findClass RX4 = some mi.cls := hown
  have hE := hF.1
  have hN : ∀ q : Nat, (wA (dw qd cI cO eA rd ++ xw qx cI x)) q → N0 ≤ q := wA_N (ws := dw qd cI cO eA rd ++ xw qx cI x) hN9
  have hH := hF.2.2.narrow hN
  have hS : va_S (wA (dw qd cI cO eA rd ++ xw qx cI x)) s.heap s.heap [] := va_S.rf
  have hD : gD (wA (dw qd cI cO eA rd ++ xw qx cI x)) (dAd qd ++ xAd qx) := gD_wA (ws := dw qd cI cO eA rd ++ xw qx cI x) hI
  have hP : va_P (dC, dI) vwCl (dw qd cI cO eA rd ++ xw qx cI x) s.heap := hP
  obtain ⟨F, hFe⟩ : ∃ F, F = pX4_read rd x := ⟨_, rfl⟩
  have hf := hFe
  have hin4 : ∀ w ∈ u_ws RX4 TX4 8, w ∈ wsX4_read := by decide +kernel
  have hin5 : ∀ w ∈ u_ws RX5 TX5 2, w ∈ wsX4_read := by decide +kernel
  have fl23 := hts (.fieldLink RX4 23 "ClickBench$CommandReader" "count" "I") (by decide +kernel)
  have fl27 := hts (.fieldLink RX4 27 "ClickBench$CommandReader" "place" "I") (by decide +kernel)
  have fl47 := hts (.fieldLink RX4 47 "ClickBench$CommandText" "length" "I") (by decide +kernel)
  have fl30 := hts (.fieldLink RX4 30 "ClickBench$CommandReader" "wordStart" "I") (by decide +kernel)
  have cn54 := hts (.constant RX4 54 (-1000000000)) (by decide +kernel)
  have J_79 : ∀ (t0_79 : Bool) (rd_79 : RS) (x_79 : TS) (H : Heap) (locs : List Loc), va_P (dC, dI) vwCl (dw qd cI cO eA rd_79 ++ xw qx cI x_79) H → va_S (wA (dw qd cI cO eA rd ++ xw qx cI x)) s.heap H locs → ∀ ls : Array Slot, lv_has ls 4 [(0, .ref (qd 0)), (1, .ref (qx 0))] → F = pX4_read_L79 t0_79 rd_79 x_79 → W p l e rX4_read s mi ([.ref (qd 0), .ref (qx 0)] : List Value).toArray below meth c H locs 0 0 (MQ below (gQi (dC, dI) (fun z9 : RS × TS => dw qd cI cO eA z9.1 ++ xw qx cI z9.2) (wA (dw qd cI cO eA rd ++ xw qx cI x)) (pX4_read rd x)) ([.ref (qd 0), .ref (qx 0)] : List Value).toArray s 0 0 (wA (dw qd cI cO eA rd ++ xw qx cI x))) (F0 mi 79 ls [.int (bz t0_79)]) := by
    intro t0_79 rd_79 x_79 H locs hP hS ls hl hf
    refine lv_istore_n (lv' := [(2, .int (bz t0_79)), (0, .ref (qd 0)), (1, .ref (qx 0))]) hx hb dX4_read_79 rfl hl (by decide) rfl (fun ls hl => ?_)
    refine lv_iload_n hx hb dX4_read_80 rfl (lv_at hl 0 rfl) ?_
    refine lv_if_eq (tgt := 91) hx hb dX4_read_81 (by decide) (fun c6 => ?_) (fun c6 => ?_)
    · have c6 := bz_f c6
      have hf := ie_eq c6 hf
      refine lv_aload_n hx hb dX4_read_91 rfl (lv_at hl 2 rfl) ?_
      refine va_get (D := (dC, dI)) (ci := 3) (v := .int x_79.1) (C := RX5) (T := TX5) (N := 2) hx hb hts hin5 hown hK hP 3 rfl rfl 1 (by decide) fl47 (fun _ h9 => h9) rfl dX4_read_92 ?_
      exact e_mi C0 (hf.symm.trans hFe) hP hS dX4_read_95
    · have c6 := bz_t c6
      have hf := it_eq c6 hf
      refine lv_aload_n hx hb dX4_read_84 rfl (lv_at hl 1 rfl) ?_
      refine va_get (D := (dC, dI)) (ci := 2) (v := .int (rd_79.1 2)) (C := RX4) (T := TX4) (N := 8) hx hb hts hin4 hown hK hP 0 rfl rfl 4 (by decide) fl30 (fun _ h9 => h9) rfl dX4_read_85 ?_
      refine lv_goto (tgt := 95) hx hb dX4_read_88 (by decide) ?_
      exact e_mi C0 (hf.symm.trans hFe) hP hS dX4_read_95
  have J_78 : ∀ (rd_78 : RS) (x_78 : TS) (H : Heap) (locs : List Loc), va_P (dC, dI) vwCl (dw qd cI cO eA rd_78 ++ xw qx cI x_78) H → va_S (wA (dw qd cI cO eA rd ++ xw qx cI x)) s.heap H locs → ∀ ls : Array Slot, lv_has ls 4 [(0, .ref (qd 0)), (1, .ref (qx 0))] → F = pX4_read_L78 rd_78 x_78 → W p l e rX4_read s mi ([.ref (qd 0), .ref (qx 0)] : List Value).toArray below meth c H locs 0 0 (MQ below (gQi (dC, dI) (fun z9 : RS × TS => dw qd cI cO eA z9.1 ++ xw qx cI z9.2) (wA (dw qd cI cO eA rd ++ xw qx cI x)) (pX4_read rd x)) ([.ref (qd 0), .ref (qx 0)] : List Value).toArray s 0 0 (wA (dw qd cI cO eA rd ++ xw qx cI x))) (F0 mi 78 ls []) := by
    intro rd_78 x_78 H locs hP hS ls hl hf
    refine lv_iconst (v := 0) hx hb dX4_read_78 (by decide) ?_
    exact J_79 false rd_78 x_78 _ _ hP hS _ (lv_sub hl [0, 1] rfl) hf
  have J_12 : ∀ (n_12 : Nat) (v2_12 : Int32) (rd_12 : RS) (x_12 : TS) (H : Heap) (locs : List Loc), va_P (dC, dI) vwCl (dw qd cI cO eA rd_12 ++ xw qx cI x_12) H → va_S (wA (dw qd cI cO eA rd ++ xw qx cI x)) s.heap H locs → ∀ ls : Array Slot, lv_has ls 4 [(0, .ref (qd 0)), (1, .ref (qx 0)), (2, .int v2_12)] → F = pX4_read_L12 n_12 v2_12 rd_12 x_12 → kX4_read_L12 n_12 v2_12 rd_12 x_12 → W p l e rX4_read s mi ([.ref (qd 0), .ref (qx 0)] : List Value).toArray below meth c H locs 0 0 (MQ below (gQi (dC, dI) (fun z9 : RS × TS => dw qd cI cO eA z9.1 ++ xw qx cI z9.2) (wA (dw qd cI cO eA rd ++ xw qx cI x)) (pX4_read rd x)) ([.ref (qd 0), .ref (qx 0)] : List Value).toArray s 0 0 (wA (dw qd cI cO eA rd ++ xw qx cI x))) (F0 mi 12 ls []) := by
    intro n_12
    induction n_12 with
    | zero =>
      intro v2_12 rd_12 x_12 H locs hP hS ls hl hf hok
      exact absurd hok (fun h => h)
    | succ n_12 ih_12 =>
      intro v2_12 rd_12 x_12 H locs hP hS ls hl hf hok
      have hf : F = bX4_read_L12 (pX4_read_L12 n_12) v2_12 rd_12 x_12 := hf
      have hok : kbX4_read_L12 (kX4_read_L12 n_12) v2_12 rd_12 x_12 := hok
      refine lv_iload_n hx hb dX4_read_12 rfl (lv_at hl 2 rfl) ?_
      refine lv_aload_n hx hb dX4_read_13 rfl (lv_at hl 1 rfl) ?_
      refine va_get (D := (dC, dI)) (ci := 3) (v := .int x_12.1) (C := RX5) (T := TX5) (N := 2) hx hb hts hin5 hown hK hP 3 rfl rfl 1 (by decide) fl47 (fun _ h9 => h9) rfl dX4_read_14 ?_
      refine lv_icmp_ge (tgt := 41) hx hb dX4_read_17 (by decide) (fun c3 => ?_) (fun c3 => ?_)
      · have hf := it_eq c3 hf
        refine lv_aload_n hx hb dX4_read_41 rfl (lv_at hl 0 rfl) ?_
        refine va_get (D := (dC, dI)) (ci := 2) (v := .int (rd_12.1 1)) (C := RX4) (T := TX4) (N := 8) hx hb hts hin4 hown hK hP 0 rfl rfl 3 (by decide) fl27 (fun _ h9 => h9) rfl dX4_read_42 ?_
        refine lv_if_ne (tgt := 51) hx hb dX4_read_45 (by decide) (fun c4 => ?_) (fun c4 => ?_)
        · have hf := ie_eq c4 hf
          refine lv_aload_n hx hb dX4_read_51 rfl (lv_at hl 0 rfl) ?_
          refine va_get (D := (dC, dI)) (ci := 2) (v := .int (rd_12.1 1)) (C := RX4) (T := TX4) (N := 8) hx hb hts hin4 hown hK hP 0 rfl rfl 3 (by decide) fl27 (fun _ h9 => h9) rfl dX4_read_52 ?_
          refine lv_iconst (v := 1) hx hb dX4_read_55 (by decide) ?_
          refine lv_icmp_ne (tgt := 78) hx hb dX4_read_56 (by decide) (fun c5 => ?_) (fun c5 => ?_)
          · have hf := ie_eq c5 hf
            exact J_78 rd_12 x_12 _ _ hP hS _ (lv_sub hl [0, 1] rfl) hf
          · have hf := it_eq c5 hf
            refine lv_aload_n hx hb dX4_read_59 rfl (lv_at hl 1 rfl) ?_
            refine lv_aload_n hx hb dX4_read_60 rfl (lv_at hl 0 rfl) ?_
            refine va_get (D := (dC, dI)) (ci := 2) (v := .int (rd_12.1 2)) (C := RX4) (T := TX4) (N := 8) hx hb hts hin4 hown hK hP 0 rfl rfl 4 (by decide) fl30 (fun _ h9 => h9) rfl dX4_read_61 ?_
            refine lv_aload_n hx hb dX4_read_64 rfl (lv_at hl 1 rfl) ?_
            refine va_get (D := (dC, dI)) (ci := 3) (v := .int x_12.1) (C := RX5) (T := TX5) (N := 2) hx hb hts hin5 hown hK hP 3 rfl rfl 1 (by decide) fl47 (fun _ h9 => h9) rfl dX4_read_65 ?_
            have hPc := hP.sub (ws' := xw qx cI x_12) [3, 4] rfl
            refine gro_e (ad := eA) (va_runV (As := [.int (rd_12.1 2), .int x_12.1]) (rest := []) ⟨hx, hb, hml, hown, hts⟩ (mX5_commandAt l dC dI cI cB cO cL N0 sT eA qx x_12 (rd_12.1 2) x_12.1  ) (cwV 2 hts gX4_read_X5_commandAt rfl rfl rfl (by decide +kernel) ⟨Nat.le_of_ble_eq_true rfl, Nat.le_of_ble_eq_true rfl⟩) ⟨fP_blind, va_recv hK hPc (ci := 3) (q0 := 0) rfl rfl, fP_ok hPc hK hF hS hN⟩ rfl rfl hl.1 rfl (lv_room (Nat.le_of_ble_eq_true rfl)) dX4_read_68 ⟨Nat.zero_le _, Nat.zero_le _⟩) ?_
            refine lv_ifnonnullE (ad := eA) (r := (pX5_commandAt x_12 (rd_12.1 2) x_12.1)) (tgt := 78) hx hb dX4_read_71 (by decide) (fun c7 => ?_) (fun c7 => ?_)
            · have hf := ie_eq c7 hf
              exact J_78 rd_12 x_12 _ _ hP hS _ (lv_sub hl [0, 1] rfl) hf
            · have hf := it_eq c7 hf
              refine lv_iconst (v := 1) hx hb dX4_read_74 (by decide) ?_
              refine lv_goto (tgt := 79) hx hb dX4_read_75 (by decide) ?_
              exact J_79 true rd_12 x_12 _ _ hP hS _ (lv_sub hl [0, 1] rfl) hf
        · have hf := it_eq c4 hf
          refine lv_ldc (v := (-1000000000)) hx hb hown cn54 dX4_read_48 ?_
          exact e_mi C0 (hf.symm.trans hFe) hP hS dX4_read_50
      · have hf := ie_eq c3 hf
        have hok := ie_ok c3 hok
        refine lv_aload_n hx hb dX4_read_20 rfl (lv_at hl 0 rfl) ?_
        refine lv_aload_n hx hb dX4_read_21 rfl (lv_at hl 1 rfl) ?_
        refine lv_iload_n hx hb dX4_read_22 rfl (lv_at hl 2 rfl) ?_
        obtain ⟨h8, hok⟩ := hok
        refine gms_i (va_runV (As := [.ref (qx 0), .int v2_12]) (rest := []) ⟨hx, hb, hml, hown, hts⟩ (mX4_step l dC dI cI cB cO cL N0 sT eA qd qx rd_12 x_12 v2_12 (gD_any hD) hN9 h8) (cwV 2 hts gX4_read_X4_step rfl rfl rfl (by decide +kernel) ⟨Nat.le_of_ble_eq_true rfl, Nat.le_of_ble_eq_true rfl⟩) ⟨fP_blind, va_recv hK hP (ci := 2) (q0 := 0) rfl rfl, fP_ok hP hK hF hS hN⟩ rfl rfl hl.1 rfl (lv_room (Nat.le_of_ble_eq_true rfl)) dX4_read_23 ⟨Nat.zero_le _, Nat.zero_le _⟩) hP (gD_va hD rfl) hS (fun r9 u10 H locs hw hP hS => ?_)
        have hP : va_P (dC, dI) vwCl (dw qd cI cO eA u10.1 ++ xw qx cI u10.2) H := hP
        have hf := bd_eq hw hf
        have hok := bd_ok hw hok
        refine lv_istore_n (lv' := [(3, .int r9), (0, .ref (qd 0)), (1, .ref (qx 0)), (2, .int v2_12)]) hx hb dX4_read_26 rfl hl (by decide) rfl (fun ls hl => ?_)
        refine lv_iload_n hx hb dX4_read_27 rfl (lv_at hl 0 rfl) ?_
        refine lv_ldc (v := (-1000000000)) hx hb hown cn54 dX4_read_28 ?_
        refine lv_icmp_eq (tgt := 35) hx hb dX4_read_30 (by decide) (fun c11 => ?_) (fun c11 => ?_)
        · have hf := it_eq c11 hf
          have hok := it_ok c11 hok
          obtain ⟨x12, ex12⟩ : ∃ y : Int32, y = v2_12 + 1 := ⟨_, rfl⟩
          refine lv_iinc (v := x12) (lv' := [(2, .int x12), (3, .int r9), (0, .ref (qd 0)), (1, .ref (qx 0))]) hx hb dX4_read_35 hl (k := 3) rfl (by rw [ex12]; rfl) (by decide) rfl (fun ls hl => ?_)
          have hf := lt_eq ex12 hf
          have hok := lt_ok ex12 hok
          refine lv_goto (tgt := 12) hx hb dX4_read_38 (by decide) ?_
          exact ih_12 x12 u10.1 u10.2 _ _ hP hS _ (lv_sub hl [2, 3, 0] rfl) hf hok
        · have hf := ie_eq c11 hf
          refine lv_iload_n hx hb dX4_read_33 rfl (lv_at hl 0 rfl) ?_
          exact e_mi C0 (hf.symm.trans hFe) hP hS dX4_read_34
  refine lv_aload_n hx hb dX4_read_0 rfl (lv_at hl 0 rfl) ?_
  refine lv_iconst (v := 0) hx hb dX4_read_1 (by decide) ?_
  refine va_put (D := (dC, dI)) (ci := 2) (v := .int 0) (ty := .int) (C := RX4) (T := TX4) (N := 8) hx hb hts hin4 tyX4 tyX4_ok nmX4 hown hK hP (gD_va hD rfl) hS 0 rfl rfl 2 (by decide) fl23 (fun _ h9 => h9) rfl (by decide +kernel) rfl rfl (Nat.le_of_ble_eq_true rfl) dX4_read_2 (fun H locs hP _ hS => ?_)
  obtain ⟨rd_1, erd_1⟩ : ∃ z9 : RS, z9 = dsi rd 0 0 := ⟨_, rfl⟩
  have hP : va_P (dC, dI) vwCl (dw qd cI cO eA rd_1 ++ xw qx cI x) H := by rw [erd_1]; exact hP
  have hf := lt_eq erd_1 hf
  have hok := lt_ok erd_1 hok
  refine lv_aload_n hx hb dX4_read_5 rfl (lv_at hl 0 rfl) ?_
  refine lv_iconst (v := 0) hx hb dX4_read_6 (by decide) ?_
  refine va_put (D := (dC, dI)) (ci := 2) (v := .int 0) (ty := .int) (C := RX4) (T := TX4) (N := 8) hx hb hts hin4 tyX4 tyX4_ok nmX4 hown hK hP (gD_va hD rfl) hS 0 rfl rfl 3 (by decide) fl27 (fun _ h9 => h9) rfl (by decide +kernel) rfl rfl (Nat.le_of_ble_eq_true rfl) dX4_read_7 (fun H locs hP _ hS => ?_)
  obtain ⟨rd_2, erd_2⟩ : ∃ z9 : RS, z9 = dsi rd_1 1 0 := ⟨_, rfl⟩
  have hP : va_P (dC, dI) vwCl (dw qd cI cO eA rd_2 ++ xw qx cI x) H := by rw [erd_2]; exact hP
  have hf := lt_eq erd_2 hf
  have hok := lt_ok erd_2 hok
  refine lv_iconst (v := 0) hx hb dX4_read_10 (by decide) ?_
  refine lv_istore_n (lv' := [(2, .int 0), (0, .ref (qd 0)), (1, .ref (qx 0))]) hx hb dX4_read_11 rfl hl (by decide) rfl (fun ls hl => ?_)
  exact J_12 fu 0 rd_2 x _ _ hP hS _ (lv_sub hl [1, 2, 0] rfl) hf hok
