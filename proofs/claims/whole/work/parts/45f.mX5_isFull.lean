noncomputable def pX5_isFull (x : TS) : Bool := if x.1 < 150 then (false) else (true)
abbrev rX5_isFull : Room := { frames := 0, cells := 0, slots := 0, locals := 0 }
set_option maxHeartbeats 4000000 in
set_option maxRecDepth 100000 in
theorem mX5_isFull (l : Launch) (dC : Nat → ClassId) (dI : Nat → Nat → Nat) (cI cB cO cL : ClassId) (qx : Nat → Nat) (x : TS) : Met l yX5_isFull wsX5_isFull rX5_isFull (cP (dC, dI) (tYS cI cB cO cL) (xw qx cI x) [.ref (qx 0)]) (gRz (pX5_isFull x)) 0 0 (fun _ => False) := by
  refine cMet (cc := cX5_isFull) (maxL := 1) (ret := some .boolean) [(0, .ref (qx 0))] (by decide) rfl rfl rfl ?_
  intro p e s mi below meth c C0 hK hE hP ls hl
  obtain ⟨hx, hb, hr, hml, hown, hts, hlocks⟩ := id C0
  have hown : s.vm.findClass RX5 = some mi.cls := hown
  obtain ⟨F, hF⟩ : ∃ F, F = pX5_isFull x := ⟨_, rfl⟩
  have hf := hF
  have hin5 : ∀ w ∈ u_ws RX5 TX5 2, w ∈ wsX5_isFull := by decide +kernel
  have fl15 := hts (.fieldLink RX5 15 "ClickBench$CommandText" "length" "I") (by decide +kernel)
  refine lv_aload_n hx hb dX5_isFull_0 rfl (lv_at hl 0 rfl) ?_
  refine va_get (D := (dC, dI)) (ci := 3) (v := .int x.1) (C := RX5) (T := TX5) (N := 2) hx hb hts hin5 hown hK hP 0 rfl rfl 1 (by decide) fl15 (fun _ h9 => h9) rfl dX5_isFull_1 ?_
  refine lv_sipush (v := 150) hx hb dX5_isFull_4 (by decide) ?_
  refine lv_icmp_lt (tgt := 14) hx hb dX5_isFull_7 (by decide) (fun c1 => ?_) (fun c1 => ?_)
  · have hf := it_eq c1 hf
    refine lv_iconst (v := 0) hx hb dX5_isFull_14 (by decide) ?_
    exact e_rz C0 (b := false) rfl (hf.symm.trans hF) dX5_isFull_15
  · have hf := ie_eq c1 hf
    refine lv_iconst (v := 1) hx hb dX5_isFull_10 (by decide) ?_
    refine lv_goto (tgt := 15) hx hb dX5_isFull_11 (by decide) ?_
    exact e_rz C0 (b := true) rfl (hf.symm.trans hF) dX5_isFull_15
