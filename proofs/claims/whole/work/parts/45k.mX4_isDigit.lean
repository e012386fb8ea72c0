noncomputable def pX4_isDigit (a1 : Int32) : Bool := pX11_isBetween a1 48 57
abbrev rX4_isDigit : Room := { frames := 1, cells := 0, slots := 0, locals := 22 }
set_option maxHeartbeats 4000000 in
set_option maxRecDepth 100000 in
theorem mX4_isDigit (l : Launch) (dC : Nat → ClassId) (dI : Nat → Nat → Nat) (cI cB cO cL : ClassId)  (a1 : Int32) : Met l yX4_isDigit wsX4_isDigit rX4_isDigit (cP (dC, dI) (tYS cI cB cO cL) ([]) [.int a1]) (gRz (pX4_isDigit a1)) 0 0 (fun _ => False) := by
  refine cMet (cc := cX4_isDigit) (maxL := 1) (ret := some .boolean) [(0, .int a1)] (by decide) rfl rfl rfl ?_
  intro p e s mi below meth c C0 hK hE hP ls hl
  obtain ⟨hx, hb, hr, hml, hown, hts, hlocks⟩ := id C0
  have hown : s.vm.findClass RX4 = some mi.cls := hown
  obtain ⟨F, hF⟩ : ∃ F, F = pX4_isDigit a1 := ⟨_, rfl⟩
  have hf := hF
  refine lv_iload_n hx hb dX4_isDigit_0 rfl (lv_at hl 0 rfl) ?_
  refine lv_bipush (v := 48) hx hb dX4_isDigit_1 (by decide) ?_
  refine lv_bipush (v := 57) hx hb dX4_isDigit_3 (by decide) ?_
  refine gro_i (va_runSN (As := [.int a1, .int 48, .int 57]) (rest := []) ⟨hx, hb, hml, hown, hts⟩ (mX11_isBetween l dC dI cI cB cO cL  a1 48 57  ) ⟨va_cnB 3 hts gX4_isDigit_X11_isBetween_n43 rfl rfl rfl (eN.at hE (own := RX4) (idx := 43) (y := yX11_isBetween) (host := "ClickBench") (by decide +kernel)) (hts (.initialized RX11) (by decide +kernel)) (by decide +kernel) ⟨Nat.le_of_ble_eq_true rfl, Nat.le_of_ble_eq_true rfl⟩, hts (.static yX11_isBetween) (by decide +kernel), trivial⟩ ⟨cP_blind, cP_ok va_P_nil hK hE⟩ rfl rfl hl.1 rfl (lv_room (Nat.le_of_ble_eq_true rfl)) dX4_isDigit_5 ⟨Nat.zero_le _, Nat.zero_le _⟩) ?_
  exact e_rz C0 (b := (pX11_isBetween a1 48 57)) rfl (hf.symm.trans hF) dX4_isDigit_8
