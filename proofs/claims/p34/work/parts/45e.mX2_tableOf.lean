noncomputable def pX2_tableOf (b : BS) (a1 : Int32) : Nat := if a1 = 0 then (0) else (if a1 = 1 then (1) else (if a1 = 2 then (2) else (3)))
abbrev rX2_tableOf : Room := { frames := 0, cells := 0, slots := 0, locals := 0 }
set_option maxHeartbeats 4000000 in
set_option maxRecDepth 100000 in
theorem mX2_tableOf (l : Launch) (dC : Nat → ClassId) (dI : Nat → Nat → Nat) (cI cB cO cL : ClassId) (qb : Nat → Nat) (b : BS) (a1 : Int32) : Met l yX2_tableOf wsX2_tableOf rX2_tableOf (cP (dC, dI) (tYS cI cB cO cL) (bw qb cI b) [.ref (qb 0), .int a1]) (gRr (fun k9 => .ref (qb (1 + 2 * k9))) (pX2_tableOf b a1)) 0 0 (fun _ => False) := by
  refine cMet (cc := cX2_tableOf) (maxL := 2) (ret := some (.object "ClickBench$Table")) [(0, .ref (qb 0)), (1, .int a1)] (by decide) rfl rfl rfl ?_
  intro p e s mi below meth c C0 hK hE hP ls hl
  obtain ⟨hx, hb, hr, hml, hown, hts, hlocks⟩ := id C0
  have hown : s.vm.findClass RX2 = some mi.cls := hown
  obtain ⟨F, hF⟩ : ∃ F, F = pX2_tableOf b a1 := ⟨_, rfl⟩
  have hf := hF
  have hin2 : ∀ w ∈ u_ws RX2 TX2 8, w ∈ wsX2_tableOf := by decide +kernel
  have fl29 := hts (.fieldLink RX2 29 "ClickBench$Bench" "microphones" "LClickBench$Table;") (by decide +kernel)
  have fl37 := hts (.fieldLink RX2 37 "ClickBench$Bench" "walls" "LClickBench$Table;") (by decide +kernel)
  have fl40 := hts (.fieldLink RX2 40 "ClickBench$Bench" "screens" "LClickBench$Table;") (by decide +kernel)
  have fl43 := hts (.fieldLink RX2 43 "ClickBench$Bench" "settings" "LClickBench$Table;") (by decide +kernel)
  refine lv_iload_n hx hb dX2_tableOf_0 rfl (lv_at hl 1 rfl) ?_
  by_cases c1 : a1 = 0
  · have hf := it_eq c1 hf
    refine lv_tableIn (tgt := 28) (off := 27) hx hb dX2_tableOf_1 (by rw [c1]; decide) (by rw [c1]; decide) (by rw [c1]; rfl) (by decide) ?_
    refine lv_aload_n hx hb dX2_tableOf_28 rfl (lv_at hl 0 rfl) ?_
    refine va_get (D := (dC, dI)) (ci := 1) (v := .ref (qb 1)) (C := RX2) (T := TX2) (N := 8) hx hb hts hin2 hown hK hP 0 rfl rfl 4 (by decide) fl29 (fun _ h9 => h9) rfl dX2_tableOf_29 ?_
    exact e_rr (k := 0) C0 rfl (hf.symm.trans hF) dX2_tableOf_32
  · have hf := ie_eq c1 hf
    by_cases c2 : a1 = 1
    · have hf := it_eq c2 hf
      refine lv_tableIn (tgt := 33) (off := 32) hx hb dX2_tableOf_1 (by rw [c2]; decide) (by rw [c2]; decide) (by rw [c2]; rfl) (by decide) ?_
      refine lv_aload_n hx hb dX2_tableOf_33 rfl (lv_at hl 0 rfl) ?_
      refine va_get (D := (dC, dI)) (ci := 1) (v := .ref (qb 3)) (C := RX2) (T := TX2) (N := 8) hx hb hts hin2 hown hK hP 0 rfl rfl 5 (by decide) fl37 (fun _ h9 => h9) rfl dX2_tableOf_34 ?_
      exact e_rr (k := 1) C0 rfl (hf.symm.trans hF) dX2_tableOf_37
    · have hf := ie_eq c2 hf
      by_cases c3 : a1 = 2
      · have hf := it_eq c3 hf
        refine lv_tableIn (tgt := 38) (off := 37) hx hb dX2_tableOf_1 (by rw [c3]; decide) (by rw [c3]; decide) (by rw [c3]; rfl) (by decide) ?_
        refine lv_aload_n hx hb dX2_tableOf_38 rfl (lv_at hl 0 rfl) ?_
        refine va_get (D := (dC, dI)) (ci := 1) (v := .ref (qb 5)) (C := RX2) (T := TX2) (N := 8) hx hb hts hin2 hown hK hP 0 rfl rfl 6 (by decide) fl40 (fun _ h9 => h9) rfl dX2_tableOf_39 ?_
        exact e_rr (k := 2) C0 rfl (hf.symm.trans hF) dX2_tableOf_42
      · have hf := ie_eq c3 hf
        refine lv_tableOut (tgt := 43) hx hb dX2_tableOf_1 (by have h0_ := i32_ne (n := 0) rfl c1; have h1_ := i32_ne (n := 1) rfl c2; have h2_ := i32_ne (n := 2) rfl c3; omega) (by decide) ?_
        refine lv_aload_n hx hb dX2_tableOf_43 rfl (lv_at hl 0 rfl) ?_
        refine va_get (D := (dC, dI)) (ci := 1) (v := .ref (qb 7)) (C := RX2) (T := TX2) (N := 8) hx hb hts hin2 hown hK hP 0 rfl rfl 7 (by decide) fl43 (fun _ h9 => h9) rfl dX2_tableOf_44 ?_
        exact e_rr (k := 3) C0 rfl (hf.symm.trans hF) dX2_tableOf_47
