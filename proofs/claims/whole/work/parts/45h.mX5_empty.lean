noncomputable def pX5_empty (x : TS) : Int32 × TS := lt (x.1) fun (x1 : Int32) => lt ((0, x.2)) fun (x_2 : TS) => (x1, x_2)
abbrev rX5_empty : Room := { frames := 0, cells := 0, slots := 0, locals := 0 }
set_option maxHeartbeats 4000000 in
set_option maxRecDepth 100000 in
theorem mX5_empty (l : Launch) (dC : Nat → ClassId) (dI : Nat → Nat → Nat) (cI cB cO cL : ClassId) (qx : Nat → Nat) (x : TS) (hI : gD (fun _ => True) (xAd qx)) : Met l yX5_empty wsX5_empty rX5_empty (cP (dC, dI) (tYS cI cB cO cL) (xw qx cI x) [.ref (qx 0)]) (gQi (dC, dI) (fun z9 => xw qx cI z9) (wA (xw qx cI x)) (pX5_empty x)) 0 0 (wA (xw qx cI x)) := by
  refine cMet (cc := cX5_empty) (maxL := 2) (ret := some .int) [(0, .ref (qx 0))] (by decide) rfl rfl rfl ?_
  intro p e s mi below meth c C0 hK hE hP ls hl
  obtain ⟨hx, hb, hr, hml, hown, hts, hlocks⟩ := id C0
  have hown : s.vm.findClass RX5 = some mi.cls := hown
  have hS : va_S (wA (xw qx cI x)) s.heap s.heap [] := va_S.rf
  have hD : gD (wA (xw qx cI x)) (xAd qx) := gD_wA (ws := xw qx cI x) hI
  have hP : va_P (dC, dI) vwCl (xw qx cI x) s.heap := hP
  obtain ⟨F, hF⟩ : ∃ F, F = pX5_empty x := ⟨_, rfl⟩
  have hf := hF
  have hin5 : ∀ w ∈ u_ws RX5 TX5 2, w ∈ wsX5_empty := by decide +kernel
  have fl15 := hts (.fieldLink RX5 15 "ClickBench$CommandText" "length" "I") (by decide +kernel)
  refine lv_aload_n hx hb dX5_empty_0 rfl (lv_at hl 0 rfl) ?_
  refine va_get (D := (dC, dI)) (ci := 3) (v := .int x.1) (C := RX5) (T := TX5) (N := 2) hx hb hts hin5 hown hK hP 0 rfl rfl 1 (by decide) fl15 (fun _ h9 => h9) rfl dX5_empty_1 ?_
  refine lv_topi (fun x1 ex1 => ?_)
  have hf := lt_eq ex1 hf
  refine lv_istore_n (lv' := [(1, .int x1), (0, .ref (qx 0))]) hx hb dX5_empty_4 rfl hl (by decide) rfl (fun ls hl => ?_)
  refine lv_aload_n hx hb dX5_empty_5 rfl (lv_at hl 1 rfl) ?_
  refine lv_iconst (v := 0) hx hb dX5_empty_6 (by decide) ?_
  refine va_put (D := (dC, dI)) (ci := 3) (v := .int 0) (ty := .int) (C := RX5) (T := TX5) (N := 2) hx hb hts hin5 tyX5 tyX5_ok nmX5 hown hK hP (gD_va hD rfl) hS 0 rfl rfl 1 (by decide) fl15 (fun _ h9 => h9) rfl (by decide +kernel) rfl rfl (Nat.le_of_ble_eq_true rfl) dX5_empty_7 (fun H locs hP _ hS => ?_)
  obtain ⟨x_2, ex_2⟩ : ∃ z9 : TS, z9 = (0, x.2) := ⟨_, rfl⟩
  have hP : va_P (dC, dI) vwCl (xw qx cI x_2) H := by rw [ex_2]; exact hP
  have hf := lt_eq ex_2 hf
  refine lv_iload_n hx hb dX5_empty_10 rfl (lv_at hl 0 rfl) ?_
  exact e_mi C0 (hf.symm.trans hF) hP hS dX5_empty_11
