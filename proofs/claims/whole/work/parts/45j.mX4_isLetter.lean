noncomputable def pX4_isLetter (a1 : Int32) : Bool := pX11_isBetween a1 97 122
abbrev rX4_isLetter : Room := { frames := 1, cells := 0, slots := 0, locals := 22 }
set_option maxHeartbeats 4000000 in
set_option maxRecDepth 100000 in
theorem mX4_isLetter (l : Launch) (dC : Nat → ClassId) (dI : Nat → Nat → Nat) (cI cB cO cL : ClassId)  (a1 : Int32) : Met l yX4_isLetter wsX4_isLetter rX4_isLetter (cP (dC, dI) (tYS cI cB cO cL) ([]) [.int a1]) (gRz (pX4_isLetter a1)) 0 0 (fun _ => False) := by
  refine cMet (cc := cX4_isLetter) (maxL := 1) (ret := some .boolean) [(0, .int a1)] (by decide) rfl rfl rfl ?_
  intro p e s mi below meth c C0 hK hE hP ls hl
  obtain ⟨hx, hb, hr, hml, hown, hts, hlocks⟩ := id C0
  have hown : s.vm.findClass RX4 = some mi.cls := hown
  obtain ⟨F, hF⟩ : ∃ F, F = pX4_isLetter a1 := ⟨_, rfl⟩
  have hf := hF
  refine lv_iload_n hx hb dX4_isLetter_0 rfl (lv_at hl 0 rfl) ?_
  refine lv_bipush (v := 97) hx hb dX4_isLetter_1 (by decide) ?_
  refine lv_bipush (v := 122) hx hb dX4_isLetter_3 (by decide) ?_
  refine gro_i (va_runSN (As := [.int a1, .int 97, .int 122]) (rest := []) ⟨hx, hb, hml, hown, hts⟩ (mX11_isBetween l dC dI cI cB cO cL  a1 97 122  ) ⟨va_cnB 3 hts gX4_isLetter_X11_isBetween_n43 rfl rfl rfl (eN.at hE (own := RX4) (idx := 43) (y := yX11_isBetween) (host := "ClickBench") (by decide +kernel)) (hts (.initialized RX11) (by decide +kernel)) (by decide +kernel) ⟨Nat.le_of_ble_eq_true rfl, Nat.le_of_ble_eq_true rfl⟩, hts (.static yX11_isBetween) (by decide +kernel), trivial⟩ ⟨cP_blind, cP_ok va_P_nil hK hE⟩ rfl rfl hl.1 rfl (lv_room (Nat.le_of_ble_eq_true rfl)) dX4_isLetter_5 ⟨Nat.zero_le _, Nat.zero_le _⟩) ?_
  exact e_rz C0 (b := (pX11_isBetween a1 97 122)) rfl (hf.symm.trans hF) dX4_isLetter_8
