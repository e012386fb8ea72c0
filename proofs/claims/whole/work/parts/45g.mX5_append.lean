noncomputable def pX5_append (x : TS) (a1 : Int32) : Int32 × TS := if (pX5_isFull x) = true then ((x.1, x)) else (lt ((x.1, (upd x.2 x.1.toNatClampNeg a1))) fun (x_3 : TS) => lt ((x_3.1 + 1, x_3.2)) fun (x_4 : TS) => (x_4.1, x_4))
def kX5_append (x : TS) (a1 : Int32) : Prop := if (pX5_isFull x) = true then (True) else (vp_in x.1 150)
abbrev rX5_append : Room := { frames := 1, cells := 0, slots := 0, locals := 20 }
set_option maxHeartbeats 4000000 in
set_option maxRecDepth 100000 in
theorem mX5_append (l : Launch) (dC : Nat → ClassId) (dI : Nat → Nat → Nat) (cI cB cO cL : ClassId) (qx : Nat → Nat) (x : TS) (a1 : Int32) (hI : gD (fun _ => True) (xAd qx)) (hok : kX5_append x a1) : Met l yX5_append wsX5_append rX5_append (cP (dC, dI) (tYS cI cB cO cL) (xw qx cI x) [.ref (qx 0), .int a1]) (gQi (dC, dI) (fun z9 => xw qx cI z9) (wA (xw qx cI x)) (pX5_append x a1)) 0 0 (wA (xw qx cI x)) := by
  refine cMet (cc := cX5_append) (maxL := 2) (ret := some .int) [(0, .ref (qx 0)), (1, .int a1)] (by decide) rfl rfl rfl ?_
  intro p e s mi below meth c C0 hK hE hP ls hl
  obtain ⟨hx, hb, hr, hml, hown, hts, hlocks⟩ := id C0
  have hown : s.vm.findClass RX5 = some mi.cls := hown
  have hS : va_S (wA (xw qx cI x)) s.heap s.heap [] := va_S.rf
  have hD : gD (wA (xw qx cI x)) (xAd qx) := gD_wA (ws := xw qx cI x) hI
  have hP : va_P (dC, dI) vwCl (xw qx cI x) s.heap := hP
  obtain ⟨F, hF⟩ : ∃ F, F = pX5_append x a1 := ⟨_, rfl⟩
  have hf := hF
  have hin5 : ∀ w ∈ u_ws RX5 TX5 2, w ∈ wsX5_append := by decide +kernel
  have fl15 := hts (.fieldLink RX5 15 "ClickBench$CommandText" "length" "I") (by decide +kernel)
  have fl11 := hts (.fieldLink RX5 11 "ClickBench$CommandText" "bytes" "[I") (by decide +kernel)
  refine lv_aload_n hx hb dX5_append_0 rfl (lv_at hl 0 rfl) ?_
  refine gro_i (va_runV (As := []) (rest := []) ⟨hx, hb, hml, hown, hts⟩ (mX5_isFull l dC dI cI cB cO cL qx x  ) (cwV 0 hts gX5_append_X5_isFull rfl rfl rfl (by decide +kernel) ⟨Nat.le_of_ble_eq_true rfl, Nat.le_of_ble_eq_true rfl⟩) ⟨cP_blind, va_recv hK hP (ci := 3) (q0 := 0) rfl rfl, cP_ok hP hK hE⟩ rfl rfl hl.1 rfl (lv_room (Nat.le_of_ble_eq_true rfl)) dX5_append_1 ⟨Nat.zero_le _, Nat.zero_le _⟩) ?_
  refine lv_if_ne (tgt := 27) hx hb dX5_append_4 (by decide) (fun c1 => ?_) (fun c1 => ?_)
  · have c1 := bz_t c1
    have hf := it_eq c1 hf
    refine lv_aload_n hx hb dX5_append_27 rfl (lv_at hl 0 rfl) ?_
    refine va_get (D := (dC, dI)) (ci := 3) (v := .int x.1) (C := RX5) (T := TX5) (N := 2) hx hb hts hin5 hown hK hP 0 rfl rfl 1 (by decide) fl15 (fun _ h9 => h9) rfl dX5_append_28 ?_
    exact e_mi C0 (hf.symm.trans hF) hP hS dX5_append_31
  · have c1 := bz_f c1
    have hf := ie_eq c1 hf
    have hok := ie_ok c1 hok
    refine lv_aload_n hx hb dX5_append_7 rfl (lv_at hl 0 rfl) ?_
    refine va_get (D := (dC, dI)) (ci := 3) (v := .ref (qx 1)) (C := RX5) (T := TX5) (N := 2) hx hb hts hin5 hown hK hP 0 rfl rfl 0 (by decide) fl11 (fun _ h9 => h9) rfl dX5_append_8 ?_
    refine lv_aload_n hx hb dX5_append_11 rfl (lv_at hl 0 rfl) ?_
    refine va_get (D := (dC, dI)) (ci := 3) (v := .int x.1) (C := RX5) (T := TX5) (N := 2) hx hb hts hin5 hown hK hP 0 rfl rfl 1 (by decide) fl15 (fun _ h9 => h9) rfl dX5_append_12 ?_
    refine lv_iload_n hx hb dX5_append_15 rfl (lv_at hl 1 rfl) ?_
    have h2 : vp_in x.1 150 := hok
    refine va_iast (D := (dC, dI)) (tys := (tYS cI cB cO cL)) hx hb hK hP (gD_va hD rfl) hS 1 0 rfl rfl h2 dX5_append_16 (fun H locs hP _ hS => ?_)
    obtain ⟨x_3, ex_3⟩ : ∃ z9 : TS, z9 = (x.1, (upd x.2 x.1.toNatClampNeg a1)) := ⟨_, rfl⟩
    have hP : va_P (dC, dI) vwCl (xw qx cI x_3) H := by rw [ex_3]; exact hP
    have hf := lt_eq ex_3 hf
    refine lv_aload_n hx hb dX5_append_17 rfl (lv_at hl 0 rfl) ?_
    refine lv_dup hx hb dX5_append_18 rfl ?_
    refine va_get (D := (dC, dI)) (ci := 3) (v := .int x_3.1) (C := RX5) (T := TX5) (N := 2) hx hb hts hin5 hown hK hP 0 rfl rfl 1 (by decide) fl15 (fun _ h9 => h9) rfl dX5_append_19 ?_
    refine lv_iconst (v := 1) hx hb dX5_append_22 (by decide) ?_
    refine lv_iadd hx hb dX5_append_23 ?_
    refine va_put (D := (dC, dI)) (ci := 3) (v := .int (x_3.1 + 1)) (ty := .int) (C := RX5) (T := TX5) (N := 2) hx hb hts hin5 tyX5 tyX5_ok nmX5 hown hK hP (gD_va hD rfl) hS 0 rfl rfl 1 (by decide) fl15 (fun _ h9 => h9) rfl (by decide +kernel) rfl rfl (Nat.le_of_ble_eq_true rfl) dX5_append_24 (fun H locs hP _ hS => ?_)
    obtain ⟨x_4, ex_4⟩ : ∃ z9 : TS, z9 = (x_3.1 + 1, x_3.2) := ⟨_, rfl⟩
    have hP : va_P (dC, dI) vwCl (xw qx cI x_4) H := by rw [ex_4]; exact hP
    have hf := lt_eq ex_4 hf
    refine lv_aload_n hx hb dX5_append_27 rfl (lv_at hl 0 rfl) ?_
    refine va_get (D := (dC, dI)) (ci := 3) (v := .int x_4.1) (C := RX5) (T := TX5) (N := 2) hx hb hts hin5 hown hK hP 0 rfl rfl 1 (by decide) fl15 (fun _ h9 => h9) rfl dX5_append_28 ?_
    exact e_mi C0 (hf.symm.trans hF) hP hS dX5_append_31
