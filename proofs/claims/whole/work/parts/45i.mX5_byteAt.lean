noncomputable def pX5_byteAt (x : TS) (a1 : Int32) : Int32 := if (pX11_isBetween a1 0 149) = true then (x.2 a1.toNatClampNeg) else ((-1000000000))
def kX5_byteAt (x : TS) (a1 : Int32) : Prop := if (pX11_isBetween a1 0 149) = true then (vp_in a1 150) else (True)
abbrev rX5_byteAt : Room := { frames := 1, cells := 0, slots := 0, locals := 22 }
set_option maxHeartbeats 4000000 in
set_option maxRecDepth 100000 in
theorem mX5_byteAt (l : Launch) (dC : Nat → ClassId) (dI : Nat → Nat → Nat) (cI cB cO cL : ClassId) (qx : Nat → Nat) (x : TS) (a1 : Int32) (hok : kX5_byteAt x a1) : Met l yX5_byteAt wsX5_byteAt rX5_byteAt (cP (dC, dI) (tYS cI cB cO cL) (xw qx cI x) [.ref (qx 0), .int a1]) (gRi (pX5_byteAt x a1)) 0 0 (fun _ => False) := by
  refine cMet (cc := cX5_byteAt) (maxL := 2) (ret := some .int) [(0, .ref (qx 0)), (1, .int a1)] (by decide) rfl rfl rfl ?_
  intro p e s mi below meth c C0 hK hE hP ls hl
  obtain ⟨hx, hb, hr, hml, hown, hts, hlocks⟩ := id C0
  have hown : s.vm.findClass RX5 = some mi.cls := hown
  obtain ⟨F, hF⟩ : ∃ F, F = pX5_byteAt x a1 := ⟨_, rfl⟩
  have hf := hF
  have hin5 : ∀ w ∈ u_ws RX5 TX5 2, w ∈ wsX5_byteAt := by decide +kernel
  have cn27 := hts (.constant RX5 27 (-1000000000)) (by decide +kernel)
  have fl11 := hts (.fieldLink RX5 11 "ClickBench$CommandText" "bytes" "[I") (by decide +kernel)
  refine lv_iload_n hx hb dX5_byteAt_0 rfl (lv_at hl 1 rfl) ?_
  refine lv_iconst (v := 0) hx hb dX5_byteAt_1 (by decide) ?_
  refine lv_sipush (v := 149) hx hb dX5_byteAt_2 (by decide) ?_
  refine gro_i (va_runSN (As := [.int a1, .int 0, .int 149]) (rest := []) ⟨hx, hb, hml, hown, hts⟩ (mX11_isBetween l dC dI cI cB cO cL  a1 0 149  ) ⟨va_cnB 3 hts gX5_byteAt_X11_isBetween_n23 rfl rfl rfl (eN.at hE (own := RX5) (idx := 23) (y := yX11_isBetween) (host := "ClickBench") (by decide +kernel)) (hts (.initialized RX11) (by decide +kernel)) (by decide +kernel) ⟨Nat.le_of_ble_eq_true rfl, Nat.le_of_ble_eq_true rfl⟩, hts (.static yX11_isBetween) (by decide +kernel), trivial⟩ ⟨cP_blind, cP_ok va_P_nil hK hE⟩ rfl rfl hl.1 rfl (lv_room (Nat.le_of_ble_eq_true rfl)) dX5_byteAt_5 ⟨Nat.zero_le _, Nat.zero_le _⟩) ?_
  refine lv_if_eq (tgt := 20) hx hb dX5_byteAt_8 (by decide) (fun c1 => ?_) (fun c1 => ?_)
  · have c1 := bz_f c1
    have hf := ie_eq c1 hf
    refine lv_ldc (v := (-1000000000)) hx hb hown cn27 dX5_byteAt_20 ?_
    exact e_ri C0 (hf.symm.trans hF) dX5_byteAt_22
  · have c1 := bz_t c1
    have hf := it_eq c1 hf
    have hok := it_ok c1 hok
    refine lv_aload_n hx hb dX5_byteAt_11 rfl (lv_at hl 0 rfl) ?_
    refine va_get (D := (dC, dI)) (ci := 3) (v := .ref (qx 1)) (C := RX5) (T := TX5) (N := 2) hx hb hts hin5 hown hK hP 0 rfl rfl 0 (by decide) fl11 (fun _ h9 => h9) rfl dX5_byteAt_12 ?_
    refine lv_iload_n hx hb dX5_byteAt_15 rfl (lv_at hl 1 rfl) ?_
    have h2 : vp_in a1 150 := hok
    refine va_iald (D := (dC, dI)) (tys := (tYS cI cB cO cL)) hx hb hK hP 1 0 rfl rfl h2 dX5_byteAt_16 ?_
    refine lv_goto (tgt := 22) hx hb dX5_byteAt_17 (by decide) ?_
    exact e_ri C0 (hf.symm.trans hF) dX5_byteAt_22
