abbrev tAd (q : Nat → Nat) : List Nat := [q 0, q 1]
abbrev tw (q : Nat → Nat) (cI : ClassId) (cap : Int32) (wid : Int32) (len : Nat) (m : TS) : va_W := [(q 0, .inr (6, [.int cap, .int wid, .ref (q 1), .int (m.1)])), (q 1, .inl (cI, len, .inl (m.2)))]
abbrev bAd (q : Nat → Nat) : List Nat := [q 0, q 1, q 2, q 3, q 4, q 5, q 6, q 7, q 8]
abbrev bw (q : Nat → Nat) (cI : ClassId) (m : BS) : va_W := [(q 0, .inr (1, [.int (m.1 0), .int (m.1 1), .int (m.1 2), .int (m.1 3), .ref (q 1), .ref (q 3), .ref (q 5), .ref (q 7)])), (q 1, .inr (6, [.int 8, .int 9, .ref (q 2), .int (m.1 4)])), (q 2, .inl (cI, 72, .inl (m.2 0))), (q 3, .inr (6, [.int 4, .int 3, .ref (q 4), .int (m.1 5)])), (q 4, .inl (cI, 12, .inl (m.2 1))), (q 5, .inr (6, [.int 4, .int 4, .ref (q 6), .int (m.1 6)])), (q 6, .inl (cI, 16, .inl (m.2 2))), (q 7, .inr (6, [.int 7, .int 1, .ref (q 8), .int (m.1 7)])), (q 8, .inl (cI, 7, .inl (m.2 3)))]
abbrev aAd (q : Nat → Nat) : List Nat := [q 0, q 1, q 2]
abbrev aw (q : Nat → Nat) (cI : ClassId) (m : TS) : va_W := [(q 0, .inr (0, [.ref (q 1)])), (q 1, .inr (6, [.int 17, .int 6, .ref (q 2), .int (m.1)])), (q 2, .inl (cI, 102, .inl (m.2)))]
abbrev eAd (q : Nat → Nat) : List Nat := [q 0, q 1, q 2, q 3]
abbrev ew (q : Nat → Nat) (cI : ClassId) (m : TS) : va_W := [(q 0, .inr (4, [.ref (q 1)])), (q 1, .inr (0, [.ref (q 2)])), (q 2, .inr (6, [.int 17, .int 6, .ref (q 3), .int (m.1)])), (q 3, .inl (cI, 102, .inl (m.2)))]
abbrev sAd (q : Nat → Nat) : List Nat := [q 0, q 1, q 2, q 3, q 4]
abbrev sw (q : Nat → Nat) (cI : ClassId) (m : SS) : va_W := [(q 0, .inr (5, [.ref (q 1), .ref (q 2), .ref (q 3), .ref (q 4), .int (m.1 0), .int (m.1 1), .int (m.1 2), .int (m.1 3), .int (m.1 4)])), (q 1, .inl (cI, 400, .inl (m.2 0))), (q 2, .inl (cI, 400, .inl (m.2 1))), (q 3, .inl (cI, 8, .inl (m.2 2))), (q 4, .inl (cI, 8, .inl (m.2 3)))]
abbrev xAd (q : Nat → Nat) : List Nat := [q 0, q 1]
abbrev xw (q : Nat → Nat) (cI : ClassId) (m : TS) : va_W := [(q 0, .inr (3, [.ref (q 1), .int (m.1)])), (q 1, .inl (cI, 150, .inl (m.2)))]
abbrev uAd (q : Nat → Nat) : List Nat := [q 0, q 1] ++ bAd (ush q 2) ++ bAd (ush q 11) ++ bAd (ush q 20) ++ bAd (ush q 29)
abbrev uw (q : Nat → Nat) (cI cB : ClassId) (m : US) : va_W := [(q 0, .inr (7, [.ref (q 1), .int (m.1 0), .int (m.1 1)])), (q 1, .inl (cB, 4, .inr (.inr (.inr (.inr (fun k => some (q (2 + 9 * k))))))))] ++ bw (ush q 2) cI (m.2 0) ++ bw (ush q 11) cI (m.2 1) ++ bw (ush q 20) cI (m.2 2) ++ bw (ush q 29) cI (m.2 3)
noncomputable def pX9_has (cap : Int32) (wid : Int32) (len : Nat) (t : TS) (a1 : Int32) : Bool := if a1 < 0 then (false) else (if t.1 ≤ a1 then (false) else (true))
abbrev rX9_has : Room := { frames := 0, cells := 0, slots := 0, locals := 0 }
set_option maxHeartbeats 4000000 in
set_option maxRecDepth 100000 in
theorem mX9_has (l : Launch) (dC : Nat → ClassId) (dI : Nat → Nat → Nat) (cI cB cO cL : ClassId) (q : Nat → Nat) (cap : Int32) (wid : Int32) (len : Nat) (t : TS) (a1 : Int32) : Met l yX9_has wsX9_has rX9_has (cP (dC, dI) (tYS cI cB cO cL) (tw q cI cap wid len t) [.ref (q 0), .int a1]) (gRz (pX9_has cap wid len t a1)) 0 0 (fun _ => False) := by
  refine cMet (cc := cX9_has) (maxL := 2) (ret := some .boolean) [(0, .ref (q 0)), (1, .int a1)] (by decide) rfl rfl rfl ?_
  intro p e s mi below meth c C0 hK hE hP ls hl
  obtain ⟨hx, hb, hr, hml, hown, hts, hlocks⟩ := id C0
  have hown : s.vm.findClass RX9 = some mi.cls := hown
  obtain ⟨F, hF⟩ : ∃ F, F = pX9_has cap wid len t a1 := ⟨_, rfl⟩
  have hf := hF
  have hin9 : ∀ w ∈ u_ws RX9 TX9 4, w ∈ wsX9_has := by decide +kernel
  have fl9 := hts (.fieldLink RX9 9 "ClickBench$Table" "count" "I") (by decide +kernel)
  refine lv_iload_n hx hb dX9_has_0 rfl (lv_at hl 1 rfl) ?_
  refine lv_if_lt (tgt := 16) hx hb dX9_has_1 (by decide) (fun c1 => ?_) (fun c1 => ?_)
  · have hf := it_eq c1 hf
    refine lv_iconst (v := 0) hx hb dX9_has_16 (by decide) ?_
    exact e_rz C0 (b := false) rfl (hf.symm.trans hF) dX9_has_17
  · have hf := ie_eq c1 hf
    refine lv_iload_n hx hb dX9_has_4 rfl (lv_at hl 1 rfl) ?_
    refine lv_aload_n hx hb dX9_has_5 rfl (lv_at hl 0 rfl) ?_
    refine va_get (D := (dC, dI)) (ci := 6) (v := .int t.1) (C := RX9) (T := TX9) (N := 4) hx hb hts hin9 hown hK hP 0 rfl rfl 3 (by decide) fl9 (fun _ h9 => h9) rfl dX9_has_6 ?_
    refine lv_icmp_ge (tgt := 16) hx hb dX9_has_9 (by decide) (fun c2 => ?_) (fun c2 => ?_)
    · have hf := it_eq c2 hf
      refine lv_iconst (v := 0) hx hb dX9_has_16 (by decide) ?_
      exact e_rz C0 (b := false) rfl (hf.symm.trans hF) dX9_has_17
    · have hf := ie_eq c2 hf
      refine lv_iconst (v := 1) hx hb dX9_has_12 (by decide) ?_
      refine lv_goto (tgt := 17) hx hb dX9_has_13 (by decide) ?_
      exact e_rz C0 (b := true) rfl (hf.symm.trans hF) dX9_has_17
noncomputable def pX9_isFull (cap : Int32) (wid : Int32) (len : Nat) (t : TS) : Bool := if t.1 < cap then (false) else (true)
abbrev rX9_isFull : Room := { frames := 0, cells := 0, slots := 0, locals := 0 }
set_option maxHeartbeats 4000000 in
set_option maxRecDepth 100000 in
theorem mX9_isFull (l : Launch) (dC : Nat → ClassId) (dI : Nat → Nat → Nat) (cI cB cO cL : ClassId) (q : Nat → Nat) (cap : Int32) (wid : Int32) (len : Nat) (t : TS) : Met l yX9_isFull wsX9_isFull rX9_isFull (cP (dC, dI) (tYS cI cB cO cL) (tw q cI cap wid len t) [.ref (q 0)]) (gRz (pX9_isFull cap wid len t)) 0 0 (fun _ => False) := by
  refine cMet (cc := cX9_isFull) (maxL := 1) (ret := some .boolean) [(0, .ref (q 0))] (by decide) rfl rfl rfl ?_
  intro p e s mi below meth c C0 hK hE hP ls hl
  obtain ⟨hx, hb, hr, hml, hown, hts, hlocks⟩ := id C0
  have hown : s.vm.findClass RX9 = some mi.cls := hown
  obtain ⟨F, hF⟩ : ∃ F, F = pX9_isFull cap wid len t := ⟨_, rfl⟩
  have hf := hF
  have hin9 : ∀ w ∈ u_ws RX9 TX9 4, w ∈ wsX9_isFull := by decide +kernel
  have fl9 := hts (.fieldLink RX9 9 "ClickBench$Table" "count" "I") (by decide +kernel)
  have fl15 := hts (.fieldLink RX9 15 "ClickBench$Table" "capacity" "I") (by decide +kernel)
  refine lv_aload_n hx hb dX9_isFull_0 rfl (lv_at hl 0 rfl) ?_
  refine va_get (D := (dC, dI)) (ci := 6) (v := .int t.1) (C := RX9) (T := TX9) (N := 4) hx hb hts hin9 hown hK hP 0 rfl rfl 3 (by decide) fl9 (fun _ h9 => h9) rfl dX9_isFull_1 ?_
  refine lv_aload_n hx hb dX9_isFull_4 rfl (lv_at hl 0 rfl) ?_
  refine va_get (D := (dC, dI)) (ci := 6) (v := .int cap) (C := RX9) (T := TX9) (N := 4) hx hb hts hin9 hown hK hP 0 rfl rfl 0 (by decide) fl15 (fun _ h9 => h9) rfl dX9_isFull_5 ?_
  refine lv_icmp_lt (tgt := 15) hx hb dX9_isFull_8 (by decide) (fun c1 => ?_) (fun c1 => ?_)
  · have hf := it_eq c1 hf
    refine lv_iconst (v := 0) hx hb dX9_isFull_15 (by decide) ?_
    exact e_rz C0 (b := false) rfl (hf.symm.trans hF) dX9_isFull_16
  · have hf := ie_eq c1 hf
    refine lv_iconst (v := 1) hx hb dX9_isFull_11 (by decide) ?_
    refine lv_goto (tgt := 16) hx hb dX9_isFull_12 (by decide) ?_
    exact e_rz C0 (b := true) rfl (hf.symm.trans hF) dX9_isFull_16
noncomputable def pX9_at (cap : Int32) (wid : Int32) (len : Nat) (t : TS) (a1 : Int32) (a2 : Int32) : Int32 := if a1 < 0 then ((-1000000000)) else (if t.1 ≤ a1 then ((-1000000000)) else (if a2 < 0 then ((-1000000000)) else (if a2 < wid then (t.2 (((a1 * wid) + a2).toNatClampNeg)) else ((-1000000000)))))
def kX9_at (cap : Int32) (wid : Int32) (len : Nat) (t : TS) (a1 : Int32) (a2 : Int32) : Prop := if a1 < 0 then (True) else (if t.1 ≤ a1 then (True) else (if a2 < 0 then (True) else (if a2 < wid then (vp_in ((a1 * wid) + a2) len) else (True))))
abbrev rX9_at : Room := { frames := 0, cells := 0, slots := 0, locals := 0 }
set_option maxHeartbeats 4000000 in
set_option maxRecDepth 100000 in
theorem mX9_at (l : Launch) (dC : Nat → ClassId) (dI : Nat → Nat → Nat) (cI cB cO cL : ClassId) (q : Nat → Nat) (cap : Int32) (wid : Int32) (len : Nat) (t : TS) (a1 : Int32) (a2 : Int32) (hok : kX9_at cap wid len t a1 a2) : Met l yX9_at wsX9_at rX9_at (cP (dC, dI) (tYS cI cB cO cL) (tw q cI cap wid len t) [.ref (q 0), .int a1, .int a2]) (gRi (pX9_at cap wid len t a1 a2)) 0 0 (fun _ => False) := by
  refine cMet (cc := cX9_at) (maxL := 3) (ret := some .int) [(0, .ref (q 0)), (1, .int a1), (2, .int a2)] (by decide) rfl rfl rfl ?_
  intro p e s mi below meth c C0 hK hE hP ls hl
  obtain ⟨hx, hb, hr, hml, hown, hts, hlocks⟩ := id C0
  have hown : s.vm.findClass RX9 = some mi.cls := hown
  obtain ⟨F, hF⟩ : ∃ F, F = pX9_at cap wid len t a1 a2 := ⟨_, rfl⟩
  have hf := hF
  have hin9 : ∀ w ∈ u_ws RX9 TX9 4, w ∈ wsX9_at := by decide +kernel
  have cn31 := hts (.constant RX9 31 (-1000000000)) (by decide +kernel)
  have fl9 := hts (.fieldLink RX9 9 "ClickBench$Table" "count" "I") (by decide +kernel)
  have fl18 := hts (.fieldLink RX9 18 "ClickBench$Table" "width" "I") (by decide +kernel)
  have fl27 := hts (.fieldLink RX9 27 "ClickBench$Table" "values" "[I") (by decide +kernel)
  refine lv_iload_n hx hb dX9_at_0 rfl (lv_at hl 1 rfl) ?_
  refine lv_if_lt (tgt := 24) hx hb dX9_at_1 (by decide) (fun c1 => ?_) (fun c1 => ?_)
  · have hf := it_eq c1 hf
    refine lv_ldc (v := (-1000000000)) hx hb hown cn31 dX9_at_24 ?_
    exact e_ri C0 (hf.symm.trans hF) dX9_at_26
  · have hf := ie_eq c1 hf
    have hok := ie_ok c1 hok
    refine lv_iload_n hx hb dX9_at_4 rfl (lv_at hl 1 rfl) ?_
    refine lv_aload_n hx hb dX9_at_5 rfl (lv_at hl 0 rfl) ?_
    refine va_get (D := (dC, dI)) (ci := 6) (v := .int t.1) (C := RX9) (T := TX9) (N := 4) hx hb hts hin9 hown hK hP 0 rfl rfl 3 (by decide) fl9 (fun _ h9 => h9) rfl dX9_at_6 ?_
    refine lv_icmp_ge (tgt := 24) hx hb dX9_at_9 (by decide) (fun c2 => ?_) (fun c2 => ?_)
    · have hf := it_eq c2 hf
      refine lv_ldc (v := (-1000000000)) hx hb hown cn31 dX9_at_24 ?_
      exact e_ri C0 (hf.symm.trans hF) dX9_at_26
    · have hf := ie_eq c2 hf
      have hok := ie_ok c2 hok
      refine lv_iload_n hx hb dX9_at_12 rfl (lv_at hl 2 rfl) ?_
      refine lv_if_lt (tgt := 24) hx hb dX9_at_13 (by decide) (fun c3 => ?_) (fun c3 => ?_)
      · have hf := it_eq c3 hf
        refine lv_ldc (v := (-1000000000)) hx hb hown cn31 dX9_at_24 ?_
        exact e_ri C0 (hf.symm.trans hF) dX9_at_26
      · have hf := ie_eq c3 hf
        have hok := ie_ok c3 hok
        refine lv_iload_n hx hb dX9_at_16 rfl (lv_at hl 2 rfl) ?_
        refine lv_aload_n hx hb dX9_at_17 rfl (lv_at hl 0 rfl) ?_
        refine va_get (D := (dC, dI)) (ci := 6) (v := .int wid) (C := RX9) (T := TX9) (N := 4) hx hb hts hin9 hown hK hP 0 rfl rfl 1 (by decide) fl18 (fun _ h9 => h9) rfl dX9_at_18 ?_
        refine lv_icmp_lt (tgt := 27) hx hb dX9_at_21 (by decide) (fun c4 => ?_) (fun c4 => ?_)
        · have hf := it_eq c4 hf
          have hok := it_ok c4 hok
          refine lv_aload_n hx hb dX9_at_27 rfl (lv_at hl 0 rfl) ?_
          refine va_get (D := (dC, dI)) (ci := 6) (v := .ref (q 1)) (C := RX9) (T := TX9) (N := 4) hx hb hts hin9 hown hK hP 0 rfl rfl 2 (by decide) fl27 (fun _ h9 => h9) rfl dX9_at_28 ?_
          refine lv_iload_n hx hb dX9_at_31 rfl (lv_at hl 1 rfl) ?_
          refine lv_aload_n hx hb dX9_at_32 rfl (lv_at hl 0 rfl) ?_
          refine va_get (D := (dC, dI)) (ci := 6) (v := .int wid) (C := RX9) (T := TX9) (N := 4) hx hb hts hin9 hown hK hP 0 rfl rfl 1 (by decide) fl18 (fun _ h9 => h9) rfl dX9_at_33 ?_
          refine lv_imul hx hb dX9_at_36 ?_
          refine lv_iload_n hx hb dX9_at_37 rfl (lv_at hl 2 rfl) ?_
          refine lv_iadd hx hb dX9_at_38 ?_
          have h5 : vp_in ((a1 * wid) + a2) len := hok
          refine va_iald (D := (dC, dI)) (tys := (tYS cI cB cO cL)) hx hb hK hP 1 0 rfl rfl h5 dX9_at_39 ?_
          exact e_ri C0 (hf.symm.trans hF) dX9_at_40
        · have hf := ie_eq c4 hf
          refine lv_ldc (v := (-1000000000)) hx hb hown cn31 dX9_at_24 ?_
          exact e_ri C0 (hf.symm.trans hF) dX9_at_26
noncomputable def pX9_put (cap : Int32) (wid : Int32) (len : Nat) (t : TS) (a1 : Int32) (a2 : Int32) (a3 : Int32) : TS := if a1 < 0 then (t) else (if t.1 ≤ a1 then (t) else (if a2 < 0 then (t) else (if a2 < wid then (lt ((t.1, (upd t.2 (((a1 * wid) + a2).toNatClampNeg) a3))) fun (t_6 : TS) => t_6) else (t))))
def kX9_put (cap : Int32) (wid : Int32) (len : Nat) (t : TS) (a1 : Int32) (a2 : Int32) (a3 : Int32) : Prop := if a1 < 0 then (True) else (if t.1 ≤ a1 then (True) else (if a2 < 0 then (True) else (if a2 < wid then (vp_in ((a1 * wid) + a2) len) else (True))))
abbrev rX9_put : Room := { frames := 0, cells := 0, slots := 0, locals := 0 }
set_option maxHeartbeats 4000000 in
set_option maxRecDepth 100000 in
theorem mX9_put (l : Launch) (dC : Nat → ClassId) (dI : Nat → Nat → Nat) (cI cB cO cL : ClassId) (q : Nat → Nat) (cap : Int32) (wid : Int32) (len : Nat) (t : TS) (a1 : Int32) (a2 : Int32) (a3 : Int32) (hI : gD (fun _ => True) (tAd q)) (hok : kX9_put cap wid len t a1 a2 a3) : Met l yX9_put wsX9_put rX9_put (cP (dC, dI) (tYS cI cB cO cL) (tw q cI cap wid len t) [.ref (q 0), .int a1, .int a2, .int a3]) (gQv (dC, dI) (fun z9 => tw q cI cap wid len z9) (wA (tw q cI cap wid len t)) (pX9_put cap wid len t a1 a2 a3)) 0 0 (wA (tw q cI cap wid len t)) := by
  refine cMet (cc := cX9_put) (maxL := 4) (ret := none) [(0, .ref (q 0)), (1, .int a1), (2, .int a2), (3, .int a3)] (by decide) rfl rfl rfl ?_
  intro p e s mi below meth c C0 hK hE hP ls hl
  obtain ⟨hx, hb, hr, hml, hown, hts, hlocks⟩ := id C0
  have hown : s.vm.findClass RX9 = some mi.cls := hown
  have hS : va_S (wA (tw q cI cap wid len t)) s.heap s.heap [] := va_S.rf
  have hD : gD (wA (tw q cI cap wid len t)) (tAd q) := gD_wA (ws := tw q cI cap wid len t) hI
  have hP : va_P (dC, dI) vwCl (tw q cI cap wid len t) s.heap := hP
  obtain ⟨F, hF⟩ : ∃ F, F = pX9_put cap wid len t a1 a2 a3 := ⟨_, rfl⟩
  have hf := hF
  have hin9 : ∀ w ∈ u_ws RX9 TX9 4, w ∈ wsX9_put := by decide +kernel
  have fl9 := hts (.fieldLink RX9 9 "ClickBench$Table" "count" "I") (by decide +kernel)
  have fl18 := hts (.fieldLink RX9 18 "ClickBench$Table" "width" "I") (by decide +kernel)
  have fl27 := hts (.fieldLink RX9 27 "ClickBench$Table" "values" "[I") (by decide +kernel)
  refine lv_iload_n hx hb dX9_put_0 rfl (lv_at hl 1 rfl) ?_
  refine lv_if_lt (tgt := 24) hx hb dX9_put_1 (by decide) (fun c1 => ?_) (fun c1 => ?_)
  · have hf := it_eq c1 hf
    exact e_mv C0 (hf.symm.trans hF) hP hS dX9_put_24
  · have hf := ie_eq c1 hf
    have hok := ie_ok c1 hok
    refine lv_iload_n hx hb dX9_put_4 rfl (lv_at hl 1 rfl) ?_
    refine lv_aload_n hx hb dX9_put_5 rfl (lv_at hl 0 rfl) ?_
    refine va_get (D := (dC, dI)) (ci := 6) (v := .int t.1) (C := RX9) (T := TX9) (N := 4) hx hb hts hin9 hown hK hP 0 rfl rfl 3 (by decide) fl9 (fun _ h9 => h9) rfl dX9_put_6 ?_
    refine lv_icmp_ge (tgt := 24) hx hb dX9_put_9 (by decide) (fun c2 => ?_) (fun c2 => ?_)
    · have hf := it_eq c2 hf
      exact e_mv C0 (hf.symm.trans hF) hP hS dX9_put_24
    · have hf := ie_eq c2 hf
      have hok := ie_ok c2 hok
      refine lv_iload_n hx hb dX9_put_12 rfl (lv_at hl 2 rfl) ?_
      refine lv_if_lt (tgt := 24) hx hb dX9_put_13 (by decide) (fun c3 => ?_) (fun c3 => ?_)
      · have hf := it_eq c3 hf
        exact e_mv C0 (hf.symm.trans hF) hP hS dX9_put_24
      · have hf := ie_eq c3 hf
        have hok := ie_ok c3 hok
        refine lv_iload_n hx hb dX9_put_16 rfl (lv_at hl 2 rfl) ?_
        refine lv_aload_n hx hb dX9_put_17 rfl (lv_at hl 0 rfl) ?_
        refine va_get (D := (dC, dI)) (ci := 6) (v := .int wid) (C := RX9) (T := TX9) (N := 4) hx hb hts hin9 hown hK hP 0 rfl rfl 1 (by decide) fl18 (fun _ h9 => h9) rfl dX9_put_18 ?_
        refine lv_icmp_lt (tgt := 25) hx hb dX9_put_21 (by decide) (fun c4 => ?_) (fun c4 => ?_)
        · have hf := it_eq c4 hf
          have hok := it_ok c4 hok
          refine lv_aload_n hx hb dX9_put_25 rfl (lv_at hl 0 rfl) ?_
          refine va_get (D := (dC, dI)) (ci := 6) (v := .ref (q 1)) (C := RX9) (T := TX9) (N := 4) hx hb hts hin9 hown hK hP 0 rfl rfl 2 (by decide) fl27 (fun _ h9 => h9) rfl dX9_put_26 ?_
          refine lv_iload_n hx hb dX9_put_29 rfl (lv_at hl 1 rfl) ?_
          refine lv_aload_n hx hb dX9_put_30 rfl (lv_at hl 0 rfl) ?_
          refine va_get (D := (dC, dI)) (ci := 6) (v := .int wid) (C := RX9) (T := TX9) (N := 4) hx hb hts hin9 hown hK hP 0 rfl rfl 1 (by decide) fl18 (fun _ h9 => h9) rfl dX9_put_31 ?_
          refine lv_imul hx hb dX9_put_34 ?_
          refine lv_iload_n hx hb dX9_put_35 rfl (lv_at hl 2 rfl) ?_
          refine lv_iadd hx hb dX9_put_36 ?_
          refine lv_iload_n hx hb dX9_put_37 rfl (lv_at hl 3 rfl) ?_
          have h5 : vp_in ((a1 * wid) + a2) len := hok
          refine va_iast (D := (dC, dI)) (tys := (tYS cI cB cO cL)) hx hb hK hP (gD_va hD rfl) hS 1 0 rfl rfl h5 dX9_put_38 (fun H locs hP _ hS => ?_)
          obtain ⟨t_6, et_6⟩ : ∃ z9 : TS, z9 = (t.1, (upd t.2 (((a1 * wid) + a2).toNatClampNeg) a3)) := ⟨_, rfl⟩
          have hP : va_P (dC, dI) vwCl (tw q cI cap wid len t_6) H := by rw [et_6]; exact hP
          have hf := lt_eq et_6 hf
          exact e_mv C0 (hf.symm.trans hF) hP hS dX9_put_39
        · have hf := ie_eq c4 hf
          exact e_mv C0 (hf.symm.trans hF) hP hS dX9_put_24
noncomputable def bX9_addRow_L27 (cap : Int32) (wid : Int32) (len : Nat)  (q_27 : Int32 → Int32 → TS → (Int32 × TS)) (v1_27 : Int32) (v2_27 : Int32) (t_27 : TS) : Int32 × TS := if wid ≤ v2_27 then ((v1_27, t_27)) else (lt (pX9_put cap wid len t_27 v1_27 v2_27 (-1000000000)) fun (u7 : TS) => lt (v2_27 + 1) fun (x8 : Int32) => q_27 v1_27 x8 u7)
noncomputable def pX9_addRow_L27 (cap : Int32) (wid : Int32) (len : Nat)  : Nat → Int32 → Int32 → TS → (Int32 × TS)
  | 0 => fun _ _ t_27 => (0, t_27)
  | n + 1 => bX9_addRow_L27 cap wid len  (pX9_addRow_L27 cap wid len  n)
def kbX9_addRow_L27 (cap : Int32) (wid : Int32) (len : Nat)  (Q_27 : Int32 → Int32 → TS → Prop) (v1_27 : Int32) (v2_27 : Int32) (t_27 : TS) : Prop := if wid ≤ v2_27 then (True) else ((kX9_put cap wid len t_27 v1_27 v2_27 (-1000000000)) ∧ (lt (pX9_put cap wid len t_27 v1_27 v2_27 (-1000000000)) fun (u7 : TS) => lt (v2_27 + 1) fun (x8 : Int32) => Q_27 v1_27 x8 u7))
noncomputable def kX9_addRow_L27 (cap : Int32) (wid : Int32) (len : Nat)  : Nat → Int32 → Int32 → TS → Prop
  | 0 => fun _ _ _ => False
  | n + 1 => kbX9_addRow_L27 cap wid len  (kX9_addRow_L27 cap wid len  n)
noncomputable def pX9_addRow (cap : Int32) (wid : Int32) (len : Nat) (t : TS) : Int32 × TS := if (pX9_isFull cap wid len t) = true then (((-1000000000), t)) else (lt (t.1) fun (x2 : Int32) => lt ((t.1 + 1, t.2)) fun (t_3 : TS) => pX9_addRow_L27 cap wid len fu x2 0 t_3)
def kX9_addRow (cap : Int32) (wid : Int32) (len : Nat) (t : TS) : Prop := if (pX9_isFull cap wid len t) = true then (True) else (lt (t.1) fun (x2 : Int32) => lt ((t.1 + 1, t.2)) fun (t_3 : TS) => kX9_addRow_L27 cap wid len fu x2 0 t_3)
abbrev rX9_addRow : Room := { frames := 1, cells := 0, slots := 0, locals := 23 }
set_option maxHeartbeats 4000000 in
set_option maxRecDepth 100000 in
theorem mX9_addRow (l : Launch) (dC : Nat → ClassId) (dI : Nat → Nat → Nat) (cI cB cO cL : ClassId) (q : Nat → Nat) (cap : Int32) (wid : Int32) (len : Nat) (t : TS) (hI : gD (fun _ => True) (tAd q)) (hok : kX9_addRow cap wid len t) : Met l yX9_addRow wsX9_addRow rX9_addRow (cP (dC, dI) (tYS cI cB cO cL) (tw q cI cap wid len t) [.ref (q 0)]) (gQi (dC, dI) (fun z9 => tw q cI cap wid len z9) (wA (tw q cI cap wid len t)) (pX9_addRow cap wid len t)) 0 0 (wA (tw q cI cap wid len t)) := by
  refine cMet (cc := cX9_addRow) (maxL := 3) (ret := some .int) [(0, .ref (q 0))] (by decide) rfl rfl rfl ?_
  intro p e s mi below meth c C0 hK hE hP ls hl
  obtain ⟨hx, hb, hr, hml, hown, hts, hlocks⟩ := id C0
  have hown : s.vm.findClass RX9 = some mi.cls := hown
  have hS : va_S (wA (tw q cI cap wid len t)) s.heap s.heap [] := va_S.rf
  have hD : gD (wA (tw q cI cap wid len t)) (tAd q) := gD_wA (ws := tw q cI cap wid len t) hI
  have hP : va_P (dC, dI) vwCl (tw q cI cap wid len t) s.heap := hP
  obtain ⟨F, hF⟩ : ∃ F, F = pX9_addRow cap wid len t := ⟨_, rfl⟩
  have hf := hF
  have hin9 : ∀ w ∈ u_ws RX9 TX9 4, w ∈ wsX9_addRow := by decide +kernel
  have fl9 := hts (.fieldLink RX9 9 "ClickBench$Table" "count" "I") (by decide +kernel)
  have fl18 := hts (.fieldLink RX9 18 "ClickBench$Table" "width" "I") (by decide +kernel)
  have cn31 := hts (.constant RX9 31 (-1000000000)) (by decide +kernel)
  have J_27 : ∀ (n_27 : Nat) (v1_27 : Int32) (v2_27 : Int32) (t_27 : TS) (H : Heap) (locs : List Loc), va_P (dC, dI) vwCl (tw q cI cap wid len t_27) H → va_S (wA (tw q cI cap wid len t)) s.heap H locs → ∀ ls : Array Slot, lv_has ls 3 [(0, .ref (q 0)), (1, .int v1_27), (2, .int v2_27)] → F = pX9_addRow_L27 cap wid len n_27 v1_27 v2_27 t_27 → kX9_addRow_L27 cap wid len n_27 v1_27 v2_27 t_27 → W p l e rX9_addRow s mi ([.ref (q 0)] : List Value).toArray below meth c H locs 0 0 (MQ below (gQi (dC, dI) (fun z9 => tw q cI cap wid len z9) (wA (tw q cI cap wid len t)) (pX9_addRow cap wid len t)) ([.ref (q 0)] : List Value).toArray s 0 0 (wA (tw q cI cap wid len t))) (F0 mi 27 ls []) := by
    intro n_27
    induction n_27 with
    | zero =>
      intro v1_27 v2_27 t_27 H locs hP hS ls hl hf hok
      exact absurd hok (fun h => h)
    | succ n_27 ih_27 =>
      intro v1_27 v2_27 t_27 H locs hP hS ls hl hf hok
      have hf : F = bX9_addRow_L27 cap wid len (pX9_addRow_L27 cap wid len n_27) v1_27 v2_27 t_27 := hf
      have hok : kbX9_addRow_L27 cap wid len (kX9_addRow_L27 cap wid len n_27) v1_27 v2_27 t_27 := hok
      refine lv_iload_n hx hb dX9_addRow_27 rfl (lv_at hl 2 rfl) ?_
      refine lv_aload_n hx hb dX9_addRow_28 rfl (lv_at hl 0 rfl) ?_
      refine va_get (D := (dC, dI)) (ci := 6) (v := .int wid) (C := RX9) (T := TX9) (N := 4) hx hb hts hin9 hown hK hP 0 rfl rfl 1 (by decide) fl18 (fun _ h9 => h9) rfl dX9_addRow_29 ?_
      refine lv_icmp_ge (tgt := 49) hx hb dX9_addRow_32 (by decide) (fun c4 => ?_) (fun c4 => ?_)
      · have hf := it_eq c4 hf
        refine lv_iload_n hx hb dX9_addRow_49 rfl (lv_at hl 1 rfl) ?_
        exact e_mi C0 (hf.symm.trans hF) hP hS dX9_addRow_50
      · have hf := ie_eq c4 hf
        have hok := ie_ok c4 hok
        refine lv_aload_n hx hb dX9_addRow_35 rfl (lv_at hl 0 rfl) ?_
        refine lv_iload_n hx hb dX9_addRow_36 rfl (lv_at hl 1 rfl) ?_
        refine lv_iload_n hx hb dX9_addRow_37 rfl (lv_at hl 2 rfl) ?_
        refine lv_ldc (v := (-1000000000)) hx hb hown cn31 dX9_addRow_38 ?_
        obtain ⟨h5, hok⟩ := hok
        refine gms_v (va_runV (As := [.int v1_27, .int v2_27, .int (-1000000000)]) (rest := []) ⟨hx, hb, hml, hown, hts⟩ (mX9_put l dC dI cI cB cO cL q cap wid len t_27 v1_27 v2_27 (-1000000000) (gD_any hD) h5) (cwV 3 hts gX9_addRow_X9_put rfl rfl rfl (by decide +kernel) ⟨Nat.le_of_ble_eq_true rfl, Nat.le_of_ble_eq_true rfl⟩) ⟨cP_blind, va_recv hK hP (ci := 6) (q0 := 0) rfl rfl, cP_ok hP hK hE⟩ rfl rfl hl.1 rfl (lv_room (Nat.le_of_ble_eq_true rfl)) dX9_addRow_40 ⟨Nat.zero_le _, Nat.zero_le _⟩) hP (gD_va hD rfl) hS (fun u7 H locs hw hP hS => ?_)
        have hP : va_P (dC, dI) vwCl (tw q cI cap wid len u7) H := hP
        have hf := lt_eq hw hf
        have hok := lt_ok hw hok
        obtain ⟨x8, ex8⟩ : ∃ y : Int32, y = v2_27 + 1 := ⟨_, rfl⟩
        refine lv_iinc (v := x8) (lv' := [(2, .int x8), (0, .ref (q 0)), (1, .int v1_27)]) hx hb dX9_addRow_43 hl (k := 2) rfl (by rw [ex8]; rfl) (by decide) rfl (fun ls hl => ?_)
        have hf := lt_eq ex8 hf
        have hok := lt_ok ex8 hok
        refine lv_goto (tgt := 27) hx hb dX9_addRow_46 (by decide) ?_
        exact ih_27 v1_27 x8 u7 _ _ hP hS _ (lv_sub hl [1, 2, 0] rfl) hf hok
  refine lv_aload_n hx hb dX9_addRow_0 rfl (lv_at hl 0 rfl) ?_
  refine gro_i (va_runV (As := []) (rest := []) ⟨hx, hb, hml, hown, hts⟩ (mX9_isFull l dC dI cI cB cO cL q cap wid len t  ) (cwV 0 hts gX9_addRow_X9_isFull rfl rfl rfl (by decide +kernel) ⟨Nat.le_of_ble_eq_true rfl, Nat.le_of_ble_eq_true rfl⟩) ⟨cP_blind, va_recv hK hP (ci := 6) (q0 := 0) rfl rfl, cP_ok hP hK hE⟩ rfl rfl hl.1 rfl (lv_room (Nat.le_of_ble_eq_true rfl)) dX9_addRow_1 ⟨Nat.zero_le _, Nat.zero_le _⟩) ?_
  refine lv_if_eq (tgt := 10) hx hb dX9_addRow_4 (by decide) (fun c1 => ?_) (fun c1 => ?_)
  · have c1 := bz_f c1
    have hf := ie_eq c1 hf
    have hok := ie_ok c1 hok
    refine lv_aload_n hx hb dX9_addRow_10 rfl (lv_at hl 0 rfl) ?_
    refine va_get (D := (dC, dI)) (ci := 6) (v := .int t.1) (C := RX9) (T := TX9) (N := 4) hx hb hts hin9 hown hK hP 0 rfl rfl 3 (by decide) fl9 (fun _ h9 => h9) rfl dX9_addRow_11 ?_
    refine lv_topi (fun x2 ex2 => ?_)
    have hf := lt_eq ex2 hf
    have hok := lt_ok ex2 hok
    refine lv_istore_n (lv' := [(1, .int x2), (0, .ref (q 0))]) hx hb dX9_addRow_14 rfl hl (by decide) rfl (fun ls hl => ?_)
    refine lv_aload_n hx hb dX9_addRow_15 rfl (lv_at hl 1 rfl) ?_
    refine lv_dup hx hb dX9_addRow_16 rfl ?_
    refine va_get (D := (dC, dI)) (ci := 6) (v := .int t.1) (C := RX9) (T := TX9) (N := 4) hx hb hts hin9 hown hK hP 0 rfl rfl 3 (by decide) fl9 (fun _ h9 => h9) rfl dX9_addRow_17 ?_
    refine lv_iconst (v := 1) hx hb dX9_addRow_20 (by decide) ?_
    refine lv_iadd hx hb dX9_addRow_21 ?_
    refine va_put (D := (dC, dI)) (ci := 6) (v := .int (t.1 + 1)) (ty := .int) (C := RX9) (T := TX9) (N := 4) hx hb hts hin9 tyX9 tyX9_ok nmX9 hown hK hP (gD_va hD rfl) hS 0 rfl rfl 3 (by decide) fl9 (fun _ h9 => h9) rfl (by decide +kernel) rfl rfl (Nat.le_of_ble_eq_true rfl) dX9_addRow_22 (fun H locs hP _ hS => ?_)
    obtain ⟨t_3, et_3⟩ : ∃ z9 : TS, z9 = (t.1 + 1, t.2) := ⟨_, rfl⟩
    have hP : va_P (dC, dI) vwCl (tw q cI cap wid len t_3) H := by rw [et_3]; exact hP
    have hf := lt_eq et_3 hf
    have hok := lt_ok et_3 hok
    refine lv_iconst (v := 0) hx hb dX9_addRow_25 (by decide) ?_
    refine lv_istore_n (lv' := [(2, .int 0), (1, .int x2), (0, .ref (q 0))]) hx hb dX9_addRow_26 rfl hl (by decide) rfl (fun ls hl => ?_)
    exact J_27 fu x2 0 t_3 _ _ hP hS _ (lv_sub hl [2, 1, 0] rfl) hf hok
  · have c1 := bz_t c1
    have hf := it_eq c1 hf
    refine lv_ldc (v := (-1000000000)) hx hb hown cn31 dX9_addRow_7 ?_
    exact e_mi C0 (hf.symm.trans hF) hP hS dX9_addRow_9
noncomputable def pX9_dropRow (cap : Int32) (wid : Int32) (len : Nat) (t : TS) (a1 : Int32) : TS := if (pX9_has cap wid len t a1) = true then (lt (((t.1 - a1) - 1) * wid) fun (x2 : Int32) => lt ((t.1, (va_cpy t.2 t.2 ((a1 + 1) * wid).toNatClampNeg (a1 * wid).toNatClampNeg (x2).toNatClampNeg))) fun (t_3 : TS) => lt ((t_3.1 - 1, t_3.2)) fun (t_4 : TS) => t_4) else (t)
def kX9_dropRow (cap : Int32) (wid : Int32) (len : Nat) (t : TS) (a1 : Int32) : Prop := if (pX9_has cap wid len t a1) = true then (lt (((t.1 - a1) - 1) * wid) fun (x2 : Int32) => (¬ ((a1 + 1) * wid) < 0) ∧ (¬ (a1 * wid) < 0) ∧ (¬ x2 < 0) ∧ (((a1 + 1) * wid).toNatClampNeg + (x2).toNatClampNeg ≤ len) ∧ ((a1 * wid).toNatClampNeg + (x2).toNatClampNeg ≤ len)) else (True)
abbrev rX9_dropRow : Room := { frames := 1, cells := 0, slots := 0, locals := 40 }
set_option maxHeartbeats 4000000 in
set_option maxRecDepth 100000 in
theorem mX9_dropRow (l : Launch) (dC : Nat → ClassId) (dI : Nat → Nat → Nat) (cI cB cO cL : ClassId) (q : Nat → Nat) (cap : Int32) (wid : Int32) (len : Nat) (t : TS) (a1 : Int32) (hI : gD (fun _ => True) (tAd q)) (hok : kX9_dropRow cap wid len t a1) : Met l yX9_dropRow wsX9_dropRow rX9_dropRow (cP (dC, dI) (tYS cI cB cO cL) (tw q cI cap wid len t) [.ref (q 0), .int a1]) (gQv (dC, dI) (fun z9 => tw q cI cap wid len z9) (wA (tw q cI cap wid len t)) (pX9_dropRow cap wid len t a1)) 0 0 (wA (tw q cI cap wid len t)) := by
  refine cMet (cc := cX9_dropRow) (maxL := 3) (ret := none) [(0, .ref (q 0)), (1, .int a1)] (by decide) rfl rfl rfl ?_
  intro p e s mi below meth c C0 hK hE hP ls hl
  obtain ⟨hx, hb, hr, hml, hown, hts, hlocks⟩ := id C0
  have hown : s.vm.findClass RX9 = some mi.cls := hown
  have hS : va_S (wA (tw q cI cap wid len t)) s.heap s.heap [] := va_S.rf
  have hD : gD (wA (tw q cI cap wid len t)) (tAd q) := gD_wA (ws := tw q cI cap wid len t) hI
  have hP : va_P (dC, dI) vwCl (tw q cI cap wid len t) s.heap := hP
  obtain ⟨F, hF⟩ : ∃ F, F = pX9_dropRow cap wid len t a1 := ⟨_, rfl⟩
  have hf := hF
  have hin9 : ∀ w ∈ u_ws RX9 TX9 4, w ∈ wsX9_dropRow := by decide +kernel
  have fl9 := hts (.fieldLink RX9 9 "ClickBench$Table" "count" "I") (by decide +kernel)
  have fl18 := hts (.fieldLink RX9 18 "ClickBench$Table" "width" "I") (by decide +kernel)
  have fl27 := hts (.fieldLink RX9 27 "ClickBench$Table" "values" "[I") (by decide +kernel)
  have ml44 := hts (.methodLink RX9 44 arraycopyName) (by decide +kernel)
  have nn := hts (.native arraycopyName) (by decide +kernel)
  have ns := hts (.static arraycopyName) (by decide +kernel)
  have nIni := hts (.initialized "java/lang/System") (by decide +kernel)
  refine lv_aload_n hx hb dX9_dropRow_0 rfl (lv_at hl 0 rfl) ?_
  refine lv_iload_n hx hb dX9_dropRow_1 rfl (lv_at hl 1 rfl) ?_
  refine gro_i (va_runV (As := [.int a1]) (rest := []) ⟨hx, hb, hml, hown, hts⟩ (mX9_has l dC dI cI cB cO cL q cap wid len t a1  ) (cwV 1 hts gX9_dropRow_X9_has rfl rfl rfl (by decide +kernel) ⟨Nat.le_of_ble_eq_true rfl, Nat.le_of_ble_eq_true rfl⟩) ⟨cP_blind, va_recv hK hP (ci := 6) (q0 := 0) rfl rfl, cP_ok hP hK hE⟩ rfl rfl hl.1 rfl (lv_room (Nat.le_of_ble_eq_true rfl)) dX9_dropRow_2 ⟨Nat.zero_le _, Nat.zero_le _⟩) ?_
  refine lv_if_ne (tgt := 9) hx hb dX9_dropRow_5 (by decide) (fun c1 => ?_) (fun c1 => ?_)
  · have c1 := bz_t c1
    have hf := it_eq c1 hf
    have hok := it_ok c1 hok
    refine lv_aload_n hx hb dX9_dropRow_9 rfl (lv_at hl 0 rfl) ?_
    refine va_get (D := (dC, dI)) (ci := 6) (v := .int t.1) (C := RX9) (T := TX9) (N := 4) hx hb hts hin9 hown hK hP 0 rfl rfl 3 (by decide) fl9 (fun _ h9 => h9) rfl dX9_dropRow_10 ?_
    refine lv_iload_n hx hb dX9_dropRow_13 rfl (lv_at hl 1 rfl) ?_
    refine lv_isub hx hb dX9_dropRow_14 ?_
    refine lv_iconst (v := 1) hx hb dX9_dropRow_15 (by decide) ?_
    refine lv_isub hx hb dX9_dropRow_16 ?_
    refine lv_aload_n hx hb dX9_dropRow_17 rfl (lv_at hl 0 rfl) ?_
    refine va_get (D := (dC, dI)) (ci := 6) (v := .int wid) (C := RX9) (T := TX9) (N := 4) hx hb hts hin9 hown hK hP 0 rfl rfl 1 (by decide) fl18 (fun _ h9 => h9) rfl dX9_dropRow_18 ?_
    refine lv_imul hx hb dX9_dropRow_21 ?_
    refine lv_topi (fun x2 ex2 => ?_)
    have hf := lt_eq ex2 hf
    have hok := lt_ok ex2 hok
    refine lv_istore_n (lv' := [(2, .int x2), (0, .ref (q 0)), (1, .int a1)]) hx hb dX9_dropRow_22 rfl hl (by decide) rfl (fun ls hl => ?_)
    refine lv_aload_n hx hb dX9_dropRow_23 rfl (lv_at hl 1 rfl) ?_
    refine va_get (D := (dC, dI)) (ci := 6) (v := .ref (q 1)) (C := RX9) (T := TX9) (N := 4) hx hb hts hin9 hown hK hP 0 rfl rfl 2 (by decide) fl27 (fun _ h9 => h9) rfl dX9_dropRow_24 ?_
    refine lv_iload_n hx hb dX9_dropRow_27 rfl (lv_at hl 2 rfl) ?_
    refine lv_iconst (v := 1) hx hb dX9_dropRow_28 (by decide) ?_
    refine lv_iadd hx hb dX9_dropRow_29 ?_
    refine lv_aload_n hx hb dX9_dropRow_30 rfl (lv_at hl 1 rfl) ?_
    refine va_get (D := (dC, dI)) (ci := 6) (v := .int wid) (C := RX9) (T := TX9) (N := 4) hx hb hts hin9 hown hK hP 0 rfl rfl 1 (by decide) fl18 (fun _ h9 => h9) rfl dX9_dropRow_31 ?_
    refine lv_imul hx hb dX9_dropRow_34 ?_
    refine lv_aload_n hx hb dX9_dropRow_35 rfl (lv_at hl 1 rfl) ?_
    refine va_get (D := (dC, dI)) (ci := 6) (v := .ref (q 1)) (C := RX9) (T := TX9) (N := 4) hx hb hts hin9 hown hK hP 0 rfl rfl 2 (by decide) fl27 (fun _ h9 => h9) rfl dX9_dropRow_36 ?_
    refine lv_iload_n hx hb dX9_dropRow_39 rfl (lv_at hl 2 rfl) ?_
    refine lv_aload_n hx hb dX9_dropRow_40 rfl (lv_at hl 1 rfl) ?_
    refine va_get (D := (dC, dI)) (ci := 6) (v := .int wid) (C := RX9) (T := TX9) (N := 4) hx hb hts hin9 hown hK hP 0 rfl rfl 1 (by decide) fl18 (fun _ h9 => h9) rfl dX9_dropRow_41 ?_
    refine lv_imul hx hb dX9_dropRow_44 ?_
    refine lv_iload_n hx hb dX9_dropRow_45 rfl (lv_at hl 0 rfl) ?_
    obtain ⟨h_1, h_2, h_3, h_4, h_5⟩ := hok
    refine va_copyi hx hb (hml.trans hl.1.symm) hown ml44 nn ns nIni hK hP (gD_va hD rfl) hS 1 1 0 0 rfl rfl rfl rfl rfl h_1 h_2 h_3 h_4 h_5 (fun _ _ => rfl) (Nat.le_of_ble_eq_true rfl) (Nat.le_of_ble_eq_true rfl) dX9_dropRow_46 (fun H locs hP _ hS => ?_)
    obtain ⟨t_3, et_3⟩ : ∃ z9 : TS, z9 = (t.1, (va_cpy t.2 t.2 ((a1 + 1) * wid).toNatClampNeg (a1 * wid).toNatClampNeg (x2).toNatClampNeg)) := ⟨_, rfl⟩
    have hP : va_P (dC, dI) vwCl (tw q cI cap wid len t_3) H := by rw [et_3]; exact hP
    have hf := lt_eq et_3 hf
    refine lv_aload_n hx hb dX9_dropRow_49 rfl (lv_at hl 1 rfl) ?_
    refine lv_dup hx hb dX9_dropRow_50 rfl ?_
    refine va_get (D := (dC, dI)) (ci := 6) (v := .int t_3.1) (C := RX9) (T := TX9) (N := 4) hx hb hts hin9 hown hK hP 0 rfl rfl 3 (by decide) fl9 (fun _ h9 => h9) rfl dX9_dropRow_51 ?_
    refine lv_iconst (v := 1) hx hb dX9_dropRow_54 (by decide) ?_
    refine lv_isub hx hb dX9_dropRow_55 ?_
    refine va_put (D := (dC, dI)) (ci := 6) (v := .int (t_3.1 - 1)) (ty := .int) (C := RX9) (T := TX9) (N := 4) hx hb hts hin9 tyX9 tyX9_ok nmX9 hown hK hP (gD_va hD rfl) hS 0 rfl rfl 3 (by decide) fl9 (fun _ h9 => h9) rfl (by decide +kernel) rfl rfl (Nat.le_of_ble_eq_true rfl) dX9_dropRow_56 (fun H locs hP _ hS => ?_)
    obtain ⟨t_4, et_4⟩ : ∃ z9 : TS, z9 = (t_3.1 - 1, t_3.2) := ⟨_, rfl⟩
    have hP : va_P (dC, dI) vwCl (tw q cI cap wid len t_4) H := by rw [et_4]; exact hP
    have hf := lt_eq et_4 hf
    exact e_mv C0 (hf.symm.trans hF) hP hS dX9_dropRow_59
  · have c1 := bz_f c1
    have hf := ie_eq c1 hf
    exact e_mv C0 (hf.symm.trans hF) hP hS dX9_dropRow_8
noncomputable def pX9_copyFrom (cap : Int32) (wid : Int32) (len : Nat) (cap2 : Int32) (wid2 : Int32) (len2 : Nat) (t : TS) (t2 : TS) : TS × TS := lt ((t.1, (va_cpy t2.2 t.2 (0 : Int32).toNatClampNeg (0 : Int32).toNatClampNeg (jmin (nI len) (nI len2)).toNatClampNeg))) fun (t_1 : TS) => lt ((t2.1, t_1.2)) fun (t_2 : TS) => (t_2, t2)
def kX9_copyFrom (cap : Int32) (wid : Int32) (len : Nat) (cap2 : Int32) (wid2 : Int32) (len2 : Nat) (t : TS) (t2 : TS) : Prop := (¬ (jmin (nI len) (nI len2)) < 0) ∧ ((0 : Int32).toNatClampNeg + (jmin (nI len) (nI len2)).toNatClampNeg ≤ len2) ∧ ((0 : Int32).toNatClampNeg + (jmin (nI len) (nI len2)).toNatClampNeg ≤ len)
abbrev rX9_copyFrom : Room := { frames := 1, cells := 0, slots := 0, locals := 40 }
set_option maxHeartbeats 4000000 in
set_option maxRecDepth 100000 in
theorem mX9_copyFrom (l : Launch) (dC : Nat → ClassId) (dI : Nat → Nat → Nat) (cI cB cO cL : ClassId) (q : Nat → Nat) (q2 : Nat → Nat) (cap : Int32) (wid : Int32) (len : Nat) (cap2 : Int32) (wid2 : Int32) (len2 : Nat) (t : TS) (t2 : TS) (hI : gD (fun _ => True) (tAd q ++ tAd q2)) (hok : kX9_copyFrom cap wid len cap2 wid2 len2 t t2) : Met l yX9_copyFrom wsX9_copyFrom rX9_copyFrom (cP (dC, dI) (tYS cI cB cO cL) (tw q cI cap wid len t ++ tw q2 cI cap2 wid2 len2 t2) [.ref (q 0), .ref (q2 0)]) (gQv (dC, dI) (fun z9 : TS × TS => tw q cI cap wid len z9.1 ++ tw q2 cI cap2 wid2 len2 z9.2) (wA (tw q cI cap wid len t ++ tw q2 cI cap2 wid2 len2 t2)) (pX9_copyFrom cap wid len cap2 wid2 len2 t t2)) 0 0 (wA (tw q cI cap wid len t ++ tw q2 cI cap2 wid2 len2 t2)) := by
  refine cMet (cc := cX9_copyFrom) (maxL := 2) (ret := none) [(0, .ref (q 0)), (1, .ref (q2 0))] (by decide) rfl rfl rfl ?_
  intro p e s mi below meth c C0 hK hE hP ls hl
  obtain ⟨hx, hb, hr, hml, hown, hts, hlocks⟩ := id C0
  have hown : s.vm.findClass RX9 = some mi.cls := hown
  have hS : va_S (wA (tw q cI cap wid len t ++ tw q2 cI cap2 wid2 len2 t2)) s.heap s.heap [] := va_S.rf
  have hD : gD (wA (tw q cI cap wid len t ++ tw q2 cI cap2 wid2 len2 t2)) (tAd q ++ tAd q2) := gD_wA (ws := tw q cI cap wid len t ++ tw q2 cI cap2 wid2 len2 t2) hI
  have hP : va_P (dC, dI) vwCl (tw q cI cap wid len t ++ tw q2 cI cap2 wid2 len2 t2) s.heap := hP
  obtain ⟨F, hF⟩ : ∃ F, F = pX9_copyFrom cap wid len cap2 wid2 len2 t t2 := ⟨_, rfl⟩
  have hf := hF
  have hin9 : ∀ w ∈ u_ws RX9 TX9 4, w ∈ wsX9_copyFrom := by decide +kernel
  have fl27 := hts (.fieldLink RX9 27 "ClickBench$Table" "values" "[I") (by decide +kernel)
  have ml50 := hts (.methodLink RX9 50 Lib.Math.min.name) (by decide +kernel)
  have ms50 := hts (.static Lib.Math.min.name) (by decide +kernel)
  have mI := hts (.initialized "java/lang/Math") (by decide +kernel)
  have mc50 := hts (.code Lib.Math.min.name Lib.Math.min.code 2 (some .int)) (by decide +kernel)
  have ml44 := hts (.methodLink RX9 44 arraycopyName) (by decide +kernel)
  have nn := hts (.native arraycopyName) (by decide +kernel)
  have ns := hts (.static arraycopyName) (by decide +kernel)
  have nIni := hts (.initialized "java/lang/System") (by decide +kernel)
  have fl9 := hts (.fieldLink RX9 9 "ClickBench$Table" "count" "I") (by decide +kernel)
  refine lv_aload_n hx hb dX9_copyFrom_0 rfl (lv_at hl 1 rfl) ?_
  refine va_get (D := (dC, dI)) (ci := 6) (v := .ref (q2 1)) (C := RX9) (T := TX9) (N := 4) hx hb hts hin9 hown hK hP 2 rfl rfl 2 (by decide) fl27 (fun _ h9 => h9) rfl dX9_copyFrom_1 ?_
  refine lv_iconst (v := 0) hx hb dX9_copyFrom_4 (by decide) ?_
  refine lv_aload_n hx hb dX9_copyFrom_5 rfl (lv_at hl 0 rfl) ?_
  refine va_get (D := (dC, dI)) (ci := 6) (v := .ref (q 1)) (C := RX9) (T := TX9) (N := 4) hx hb hts hin9 hown hK hP 0 rfl rfl 2 (by decide) fl27 (fun _ h9 => h9) rfl dX9_copyFrom_6 ?_
  refine lv_iconst (v := 0) hx hb dX9_copyFrom_9 (by decide) ?_
  refine lv_aload_n hx hb dX9_copyFrom_10 rfl (lv_at hl 0 rfl) ?_
  refine va_get (D := (dC, dI)) (ci := 6) (v := .ref (q 1)) (C := RX9) (T := TX9) (N := 4) hx hb hts hin9 hown hK hP 0 rfl rfl 2 (by decide) fl27 (fun _ h9 => h9) rfl dX9_copyFrom_11 ?_
  refine va_alen (D := (dC, dI)) (tys := (tYS cI cB cO cL)) hx hb hK hP 1 0 rfl rfl (v := nI len) rfl dX9_copyFrom_14 ?_
  refine lv_aload_n hx hb dX9_copyFrom_15 rfl (lv_at hl 1 rfl) ?_
  refine va_get (D := (dC, dI)) (ci := 6) (v := .ref (q2 1)) (C := RX9) (T := TX9) (N := 4) hx hb hts hin9 hown hK hP 2 rfl rfl 2 (by decide) fl27 (fun _ h9 => h9) rfl dX9_copyFrom_16 ?_
  refine va_alen (D := (dC, dI)) (tys := (tYS cI cB cO cL)) hx hb hK hP 3 0 rfl rfl (v := nI len2) rfl dX9_copyFrom_19 ?_
  refine va_mmin hx hb (hml.trans hl.1.symm) hown ml50 ms50 mI mc50 (Nat.le_of_ble_eq_true rfl) (Nat.le_of_ble_eq_true rfl) (Nat.zero_le _) (Nat.zero_le _) dX9_copyFrom_20 ?_
  obtain ⟨h_1, h_2, h_3⟩ := hok
  refine va_copyi hx hb (hml.trans hl.1.symm) hown ml44 nn ns nIni hK hP (gD_va hD rfl) hS 3 1 0 0 rfl rfl rfl rfl rfl (by decide) (by decide) h_1 h_2 h_3 (fun _ _ => rfl) (Nat.le_of_ble_eq_true rfl) (Nat.le_of_ble_eq_true rfl) dX9_copyFrom_23 (fun H locs hP _ hS => ?_)
  obtain ⟨t_1, et_1⟩ : ∃ z9 : TS, z9 = (t.1, (va_cpy t2.2 t.2 (0 : Int32).toNatClampNeg (0 : Int32).toNatClampNeg (jmin (nI len) (nI len2)).toNatClampNeg)) := ⟨_, rfl⟩
  have hP : va_P (dC, dI) vwCl (tw q cI cap wid len t_1 ++ tw q2 cI cap2 wid2 len2 t2) H := by rw [et_1]; exact hP
  have hf := lt_eq et_1 hf
  refine lv_aload_n hx hb dX9_copyFrom_26 rfl (lv_at hl 0 rfl) ?_
  refine lv_aload_n hx hb dX9_copyFrom_27 rfl (lv_at hl 1 rfl) ?_
  refine va_get (D := (dC, dI)) (ci := 6) (v := .int t2.1) (C := RX9) (T := TX9) (N := 4) hx hb hts hin9 hown hK hP 2 rfl rfl 3 (by decide) fl9 (fun _ h9 => h9) rfl dX9_copyFrom_28 ?_
  refine va_put (D := (dC, dI)) (ci := 6) (v := .int t2.1) (ty := .int) (C := RX9) (T := TX9) (N := 4) hx hb hts hin9 tyX9 tyX9_ok nmX9 hown hK hP (gD_va hD rfl) hS 0 rfl rfl 3 (by decide) fl9 (fun _ h9 => h9) rfl (by decide +kernel) rfl rfl (Nat.le_of_ble_eq_true rfl) dX9_copyFrom_31 (fun H locs hP _ hS => ?_)
  obtain ⟨t_2, et_2⟩ : ∃ z9 : TS, z9 = (t2.1, t_1.2) := ⟨_, rfl⟩
  have hP : va_P (dC, dI) vwCl (tw q cI cap wid len t_2 ++ tw q2 cI cap2 wid2 len2 t2) H := by rw [et_2]; exact hP
  have hf := lt_eq et_2 hf
  exact e_mv C0 (hf.symm.trans hF) hP hS dX9_copyFrom_34
noncomputable def pX7_way_L50  (q_20 : Int64 → Int64 → Int64 → Int32) (v2_50 : Int64) (v4_50 : Int64) (v6_50 : Int64) : Int32 := lt (v6_50 >>> ((1 : Int32).toInt64 &&& 63)) fun (x4 : Int64) => q_20 v2_50 v4_50 x4
def kX7_way_L50  (Q_20 : Int64 → Int64 → Int64 → Prop) (v2_50 : Int64) (v4_50 : Int64) (v6_50 : Int64) : Prop := lt (v6_50 >>> ((1 : Int32).toInt64 &&& 63)) fun (x4 : Int64) => Q_20 v2_50 v4_50 x4
noncomputable def bX7_way_L20   (q_20 : Int64 → Int64 → Int64 → Int32) (v2_20 : Int64) (v4_20 : Int64) (v6_20 : Int64) : Int32 := if v6_20 ≤ 0 then (v4_20.toInt32) else (if v2_20 < ((v4_20 + v6_20) * (v4_20 + v6_20)) then (pX7_way_L50 q_20 v2_20 v4_20 v6_20) else (lt (v4_20 + v6_20) fun (x5 : Int64) => pX7_way_L50 q_20 v2_20 x5 v6_20))
noncomputable def pX7_way_L20   : Nat → Int64 → Int64 → Int64 → Int32
  | 0 => fun _ _ _ => (0)
  | n + 1 => bX7_way_L20   (pX7_way_L20   n)
def kbX7_way_L20   (Q_20 : Int64 → Int64 → Int64 → Prop) (v2_20 : Int64) (v4_20 : Int64) (v6_20 : Int64) : Prop := if v6_20 ≤ 0 then (True) else (if v2_20 < ((v4_20 + v6_20) * (v4_20 + v6_20)) then (kX7_way_L50 Q_20 v2_20 v4_20 v6_20) else (lt (v4_20 + v6_20) fun (x5 : Int64) => kX7_way_L50 Q_20 v2_20 x5 v6_20))
noncomputable def kX7_way_L20   : Nat → Int64 → Int64 → Int64 → Prop
  | 0 => fun _ _ _ => False
  | n + 1 => kbX7_way_L20   (kX7_way_L20   n)
noncomputable def pX7_way (a1 : Int32) (a2 : Int32) : Int32 := lt ((a1.toInt64 * a1.toInt64) + (a2.toInt64 * a2.toInt64)) fun (x1 : Int64) => pX7_way_L20 fu x1 0 16384
def kX7_way (a1 : Int32) (a2 : Int32) : Prop := lt ((a1.toInt64 * a1.toInt64) + (a2.toInt64 * a2.toInt64)) fun (x1 : Int64) => kX7_way_L20 fu x1 0 16384
abbrev rX7_way : Room := { frames := 0, cells := 0, slots := 0, locals := 0 }
set_option maxHeartbeats 4000000 in
set_option maxRecDepth 100000 in
theorem mX7_way (l : Launch) (dC : Nat → ClassId) (dI : Nat → Nat → Nat) (cI cB cO cL : ClassId)  (a1 : Int32) (a2 : Int32) (hok : kX7_way a1 a2) : Met l yX7_way wsX7_way rX7_way (cP (dC, dI) (tYS cI cB cO cL) ([]) [.int a1, .int a2]) (gRi (pX7_way a1 a2)) 0 0 (fun _ => False) := by
  refine cMet (cc := cX7_way) (maxL := 8) (ret := some .int) [(0, .int a1), (1, .int a2)] (by decide) rfl rfl rfl ?_
  intro p e s mi below meth c C0 hK hE hP ls hl
  obtain ⟨hx, hb, hr, hml, hown, hts, hlocks⟩ := id C0
  have hown : s.vm.findClass RX7 = some mi.cls := hown
  obtain ⟨F, hF⟩ : ∃ F, F = pX7_way a1 a2 := ⟨_, rfl⟩
  have hf := hF
  have cn7 := hts (.constantLong RX7 7 (16384)) (by decide +kernel)
  have J_20 : ∀ (n_20 : Nat) (v2_20 : Int64) (v4_20 : Int64) (v6_20 : Int64), ∀ ls : Array Slot, lv_has ls 8 [(2, .long v2_20), (4, .long v4_20), (6, .long v6_20)] → F = pX7_way_L20 n_20 v2_20 v4_20 v6_20 → kX7_way_L20 n_20 v2_20 v4_20 v6_20 → W p l e rX7_way s mi ([.int a1, .int a2] : List Value).toArray below meth c s.heap [] 0 0 (MQ below (gRi (pX7_way a1 a2)) ([.int a1, .int a2] : List Value).toArray s 0 0 (fun _ => False)) (F0 mi 20 ls []) := by
    intro n_20
    induction n_20 with
    | zero =>
      intro v2_20 v4_20 v6_20 ls hl hf hok
      exact absurd hok (fun h => h)
    | succ n_20 ih_20 =>
      have J_50 : ∀ (v2_50 : Int64) (v4_50 : Int64) (v6_50 : Int64), ∀ ls : Array Slot, lv_has ls 8 [(2, .long v2_50), (4, .long v4_50), (6, .long v6_50)] → F = pX7_way_L50 (pX7_way_L20 n_20) v2_50 v4_50 v6_50 → kX7_way_L50 (kX7_way_L20 n_20) v2_50 v4_50 v6_50 → W p l e rX7_way s mi ([.int a1, .int a2] : List Value).toArray below meth c s.heap [] 0 0 (MQ below (gRi (pX7_way a1 a2)) ([.int a1, .int a2] : List Value).toArray s 0 0 (fun _ => False)) (F0 mi 50 ls []) := by
        intro v2_50 v4_50 v6_50 ls hl hf hok
        refine lv_lload hx hb dX7_way_50 (lv_at hl 2 rfl) ?_
        refine lv_iconst (v := 1) hx hb dX7_way_52 (by decide) ?_
        refine lv_lshr hx hb dX7_way_53 rfl ?_
        refine lv_topl (fun x4 ex4 => ?_)
        have hf := lt_eq ex4 hf
        have hok := lt_ok ex4 hok
        refine lv_lstore (lv' := [(6, .long x4), (2, .long v2_50), (4, .long v4_50)]) hx hb dX7_way_54 hl (by decide) rfl (fun ls hl => ?_)
        refine lv_goto (tgt := 20) hx hb dX7_way_56 (by decide) ?_
        exact ih_20 v2_50 v4_50 x4 _ (lv_sub hl [1, 2, 0] rfl) hf hok
      intro v2_20 v4_20 v6_20 ls hl hf hok
      have hf : F = bX7_way_L20 (pX7_way_L20 n_20) v2_20 v4_20 v6_20 := hf
      have hok : kbX7_way_L20 (kX7_way_L20 n_20) v2_20 v4_20 v6_20 := hok
      refine lv_lload hx hb dX7_way_20 (lv_at hl 2 rfl) ?_
      refine lv_lconst (v := 0) hx hb dX7_way_22 (by decide) ?_
      refine W.lcmp hx hb dX7_way_23 ?_
      refine lv_if_le (tgt := 59) hx hb dX7_way_24 (by decide) (fun c2 => ?_) (fun c2 => ?_)
      · have c2 := (lg_cmp_le _ _).mp c2
        have hf := it_eq c2 hf
        refine lv_lload hx hb dX7_way_59 (lv_at hl 1 rfl) ?_
        refine lv_l2i hx hb dX7_way_61 rfl ?_
        exact e_ri C0 (hf.symm.trans hF) dX7_way_62
      · have c2 := fun h => c2 ((lg_cmp_le _ _).mpr h)
        have hf := ie_eq c2 hf
        have hok := ie_ok c2 hok
        refine lv_lload hx hb dX7_way_27 (lv_at hl 1 rfl) ?_
        refine lv_lload hx hb dX7_way_29 (lv_at hl 2 rfl) ?_
        refine lv_ladd hx hb dX7_way_31 ?_
        refine lv_lload hx hb dX7_way_32 (lv_at hl 1 rfl) ?_
        refine lv_lload hx hb dX7_way_34 (lv_at hl 2 rfl) ?_
        refine lv_ladd hx hb dX7_way_36 ?_
        refine lv_lmul hx hb dX7_way_37 ?_
        refine lv_lload_n hx hb dX7_way_38 rfl (lv_at hl 0 rfl) ?_
        refine W.lcmp hx hb dX7_way_39 ?_
        refine lv_if_gt (tgt := 50) hx hb dX7_way_40 (by decide) (fun c3 => ?_) (fun c3 => ?_)
        · have c3 := (lg_cmp_gt _ _).mp c3
          have hf := it_eq c3 hf
          have hok := it_ok c3 hok
          exact J_50 v2_20 v4_20 v6_20 _ (lv_sub hl [0, 1, 2] rfl) hf hok
        · have c3 := fun h => c3 ((lg_cmp_gt _ _).mpr h)
          have hf := ie_eq c3 hf
          have hok := ie_ok c3 hok
          refine lv_lload hx hb dX7_way_43 (lv_at hl 1 rfl) ?_
          refine lv_lload hx hb dX7_way_45 (lv_at hl 2 rfl) ?_
          refine lv_ladd hx hb dX7_way_47 ?_
          refine lv_topl (fun x5 ex5 => ?_)
          have hf := lt_eq ex5 hf
          have hok := lt_ok ex5 hok
          refine lv_lstore (lv' := [(4, .long x5), (2, .long v2_20), (6, .long v6_20)]) hx hb dX7_way_48 hl (by decide) rfl (fun ls hl => ?_)
          exact J_50 v2_20 x5 v6_20 _ (lv_sub hl [1, 0, 2] rfl) hf hok
  refine lv_iload_n hx hb dX7_way_0 rfl (lv_at hl 0 rfl) ?_
  refine lv_i2l hx hb dX7_way_1 rfl ?_
  refine lv_iload_n hx hb dX7_way_2 rfl (lv_at hl 0 rfl) ?_
  refine lv_i2l hx hb dX7_way_3 rfl ?_
  refine lv_lmul hx hb dX7_way_4 ?_
  refine lv_iload_n hx hb dX7_way_5 rfl (lv_at hl 1 rfl) ?_
  refine lv_i2l hx hb dX7_way_6 rfl ?_
  refine lv_iload_n hx hb dX7_way_7 rfl (lv_at hl 1 rfl) ?_
  refine lv_i2l hx hb dX7_way_8 rfl ?_
  refine lv_lmul hx hb dX7_way_9 ?_
  refine lv_ladd hx hb dX7_way_10 ?_
  refine lv_topl (fun x1 ex1 => ?_)
  have hf := lt_eq ex1 hf
  have hok := lt_ok ex1 hok
  refine lv_lstore_n (lv' := [(2, .long x1), (0, .int a1), (1, .int a2)]) hx hb dX7_way_11 rfl hl (by decide) rfl (fun ls hl => ?_)
  refine lv_lconst (v := 0) hx hb dX7_way_12 (by decide) ?_
  refine lv_lstore (lv' := [(4, .long 0), (2, .long x1), (0, .int a1), (1, .int a2)]) hx hb dX7_way_13 hl (by decide) rfl (fun ls hl => ?_)
  refine lv_ldc2 (v := 16384) hx hb hown cn7 dX7_way_15 ?_
  refine lv_lstore (lv' := [(6, .long 16384), (4, .long 0), (2, .long x1), (0, .int a1), (1, .int a2)]) hx hb dX7_way_18 hl (by decide) rfl (fun ls hl => ?_)
  exact J_20 fu x1 0 16384 _ (lv_sub hl [2, 1, 0] rfl) hf hok
noncomputable def pX7_strength (a1 : Int32) : Int32 := if 0 ≤ a1 then (100000 / (a1 + 100)) else (0)
def kX7_strength (a1 : Int32) : Prop := if 0 ≤ a1 then (¬ (a1 + 100) = 0) else (True)
abbrev rX7_strength : Room := { frames := 0, cells := 0, slots := 0, locals := 0 }
set_option maxHeartbeats 4000000 in
set_option maxRecDepth 100000 in
theorem mX7_strength (l : Launch) (dC : Nat → ClassId) (dI : Nat → Nat → Nat) (cI cB cO cL : ClassId)  (a1 : Int32) (hok : kX7_strength a1) : Met l yX7_strength wsX7_strength rX7_strength (cP (dC, dI) (tYS cI cB cO cL) ([]) [.int a1]) (gRi (pX7_strength a1)) 0 0 (fun _ => False) := by
  refine cMet (cc := cX7_strength) (maxL := 1) (ret := some .int) [(0, .int a1)] (by decide) rfl rfl rfl ?_
  intro p e s mi below meth c C0 hK hE hP ls hl
  obtain ⟨hx, hb, hr, hml, hown, hts, hlocks⟩ := id C0
  have hown : s.vm.findClass RX7 = some mi.cls := hown
  obtain ⟨F, hF⟩ : ∃ F, F = pX7_strength a1 := ⟨_, rfl⟩
  have hf := hF
  have cn9 := hts (.constant RX7 9 (100000)) (by decide +kernel)
  refine lv_iload_n hx hb dX7_strength_0 rfl (lv_at hl 0 rfl) ?_
  refine lv_if_ge (tgt := 8) hx hb dX7_strength_1 (by decide) (fun c1 => ?_) (fun c1 => ?_)
  · have hf := it_eq c1 hf
    have hok := it_ok c1 hok
    refine lv_ldc (v := 100000) hx hb hown cn9 dX7_strength_8 ?_
    refine lv_iload_n hx hb dX7_strength_10 rfl (lv_at hl 0 rfl) ?_
    refine lv_bipush (v := 100) hx hb dX7_strength_11 (by decide) ?_
    refine lv_iadd hx hb dX7_strength_13 ?_
    have h2 : ¬ (a1 + 100) = 0 := hok
    refine lv_idiv hx hb dX7_strength_14 h2 ?_
    exact e_ri C0 (hf.symm.trans hF) dX7_strength_15
  · have hf := ie_eq c1 hf
    refine lv_iconst (v := 0) hx hb dX7_strength_4 (by decide) ?_
    refine lv_goto (tgt := 15) hx hb dX7_strength_5 (by decide) ?_
    exact e_ri C0 (hf.symm.trans hF) dX7_strength_15
noncomputable def pX7_crosses (a1 : Int32) (a2 : Int32) (a3 : Int32) (a4 : Int32) (a5 : Int32) (a6 : Int32) (a7 : Int32) : Bool := if a5 ≤ (jmin a1 a3) then (false) else (if a5 < (jmax a1 a3) then (lt (a3.toInt64 - a1.toInt64) fun (x3 : Int64) => lt ((a2.toInt64 * x3) + ((a4.toInt64 - a2.toInt64) * (a5.toInt64 - a1.toInt64))) fun (x4 : Int64) => lt (jminL (a6.toInt64 * x3) (a7.toInt64 * x3)) fun (x5 : Int64) => lt (jmaxL (a6.toInt64 * x3) (a7.toInt64 * x3)) fun (x6 : Int64) => if x4 < x5 then (false) else (if x6 < x4 then (false) else (true))) else (false))
abbrev rX7_crosses : Room := { frames := 1, cells := 0, slots := 0, locals := 23 }
set_option maxHeartbeats 4000000 in
set_option maxRecDepth 100000 in
theorem mX7_crosses (l : Launch) (dC : Nat → ClassId) (dI : Nat → Nat → Nat) (cI cB cO cL : ClassId)  (a1 : Int32) (a2 : Int32) (a3 : Int32) (a4 : Int32) (a5 : Int32) (a6 : Int32) (a7 : Int32) : Met l yX7_crosses wsX7_crosses rX7_crosses (cP (dC, dI) (tYS cI cB cO cL) ([]) [.int a1, .int a2, .int a3, .int a4, .int a5, .int a6, .int a7]) (gRz (pX7_crosses a1 a2 a3 a4 a5 a6 a7)) 0 0 (fun _ => False) := by
  refine cMet (cc := cX7_crosses) (maxL := 15) (ret := some .boolean) [(0, .int a1), (1, .int a2), (2, .int a3), (3, .int a4), (4, .int a5), (5, .int a6), (6, .int a7)] (by decide) rfl rfl rfl ?_
  intro p e s mi below meth c C0 hK hE hP ls hl
  obtain ⟨hx, hb, hr, hml, hown, hts, hlocks⟩ := id C0
  have hown : s.vm.findClass RX7 = some mi.cls := hown
  obtain ⟨F, hF⟩ : ∃ F, F = pX7_crosses a1 a2 a3 a4 a5 a6 a7 := ⟨_, rfl⟩
  have hf := hF
  have ml10 := hts (.methodLink RX7 10 Lib.Math.min.name) (by decide +kernel)
  have ms10 := hts (.static Lib.Math.min.name) (by decide +kernel)
  have mI := hts (.initialized "java/lang/Math") (by decide +kernel)
  have mc10 := hts (.code Lib.Math.min.name Lib.Math.min.code 2 (some .int)) (by decide +kernel)
  have ml16 := hts (.methodLink RX7 16 Lib.Math.max.name) (by decide +kernel)
  have ms16 := hts (.static Lib.Math.max.name) (by decide +kernel)
  have mc16 := hts (.code Lib.Math.max.name Lib.Math.max.code 2 (some .int)) (by decide +kernel)
  have ml19 := hts (.methodLink RX7 19 Lib.MathLoose.min_long.x) (by decide +kernel)
  have ms19 := hts (.static Lib.MathLoose.min_long.x) (by decide +kernel)
  have mc19 := hts (.code Lib.MathLoose.min_long.x Lib.MathLoose.min_long.code 4 (some .long)) (by decide +kernel)
  have ml22 := hts (.methodLink RX7 22 Lib.MathLoose.max_long.x) (by decide +kernel)
  have ms22 := hts (.static Lib.MathLoose.max_long.x) (by decide +kernel)
  have mc22 := hts (.code Lib.MathLoose.max_long.x Lib.MathLoose.max_long.code 4 (some .long)) (by decide +kernel)
  refine lv_iload_n hx hb dX7_crosses_0 rfl (lv_at hl 0 rfl) ?_
  refine lv_iload_n hx hb dX7_crosses_1 rfl (lv_at hl 2 rfl) ?_
  refine va_mmin hx hb (hml.trans hl.1.symm) hown ml10 ms10 mI mc10 (Nat.le_of_ble_eq_true rfl) (Nat.le_of_ble_eq_true rfl) (Nat.zero_le _) (Nat.zero_le _) dX7_crosses_2 ?_
  refine lv_iload hx hb dX7_crosses_5 (lv_at hl 4 rfl) ?_
  refine lv_icmp_ge (tgt := 20) hx hb dX7_crosses_7 (by decide) (fun c1 => ?_) (fun c1 => ?_)
  · have hf := it_eq c1 hf
    refine lv_iconst (v := 0) hx hb dX7_crosses_20 (by decide) ?_
    exact e_rz C0 (b := false) rfl (hf.symm.trans hF) dX7_crosses_21
  · have hf := ie_eq c1 hf
    refine lv_iload_n hx hb dX7_crosses_10 rfl (lv_at hl 0 rfl) ?_
    refine lv_iload_n hx hb dX7_crosses_11 rfl (lv_at hl 2 rfl) ?_
    refine va_mmax hx hb (hml.trans hl.1.symm) hown ml16 ms16 mI mc16 (Nat.le_of_ble_eq_true rfl) (Nat.le_of_ble_eq_true rfl) (Nat.zero_le _) (Nat.zero_le _) dX7_crosses_12 ?_
    refine lv_iload hx hb dX7_crosses_15 (lv_at hl 4 rfl) ?_
    refine lv_icmp_gt (tgt := 22) hx hb dX7_crosses_17 (by decide) (fun c2 => ?_) (fun c2 => ?_)
    · have hf := it_eq c2 hf
      refine lv_iload_n hx hb dX7_crosses_22 rfl (lv_at hl 2 rfl) ?_
      refine lv_i2l hx hb dX7_crosses_23 rfl ?_
      refine lv_iload_n hx hb dX7_crosses_24 rfl (lv_at hl 0 rfl) ?_
      refine lv_i2l hx hb dX7_crosses_25 rfl ?_
      refine lv_lsub hx hb dX7_crosses_26 ?_
      refine lv_topl (fun x3 ex3 => ?_)
      have hf := lt_eq ex3 hf
      refine lv_lstore (lv' := [(7, .long x3), (0, .int a1), (1, .int a2), (2, .int a3), (3, .int a4), (4, .int a5), (5, .int a6), (6, .int a7)]) hx hb dX7_crosses_27 hl (by decide) rfl (fun ls hl => ?_)
      refine lv_iload_n hx hb dX7_crosses_29 rfl (lv_at hl 2 rfl) ?_
      refine lv_i2l hx hb dX7_crosses_30 rfl ?_
      refine lv_lload hx hb dX7_crosses_31 (lv_at hl 0 rfl) ?_
      refine lv_lmul hx hb dX7_crosses_33 ?_
      refine lv_iload_n hx hb dX7_crosses_34 rfl (lv_at hl 4 rfl) ?_
      refine lv_i2l hx hb dX7_crosses_35 rfl ?_
      refine lv_iload_n hx hb dX7_crosses_36 rfl (lv_at hl 2 rfl) ?_
      refine lv_i2l hx hb dX7_crosses_37 rfl ?_
      refine lv_lsub hx hb dX7_crosses_38 ?_
      refine lv_iload hx hb dX7_crosses_39 (lv_at hl 5 rfl) ?_
      refine lv_i2l hx hb dX7_crosses_41 rfl ?_
      refine lv_iload_n hx hb dX7_crosses_42 rfl (lv_at hl 1 rfl) ?_
      refine lv_i2l hx hb dX7_crosses_43 rfl ?_
      refine lv_lsub hx hb dX7_crosses_44 ?_
      refine lv_lmul hx hb dX7_crosses_45 ?_
      refine lv_ladd hx hb dX7_crosses_46 ?_
      refine lv_topl (fun x4 ex4 => ?_)
      have hf := lt_eq ex4 hf
      refine lv_lstore (lv' := [(9, .long x4), (7, .long x3), (0, .int a1), (1, .int a2), (2, .int a3), (3, .int a4), (4, .int a5), (5, .int a6), (6, .int a7)]) hx hb dX7_crosses_47 hl (by decide) rfl (fun ls hl => ?_)
      refine lv_iload hx hb dX7_crosses_49 (lv_at hl 7 rfl) ?_
      refine lv_i2l hx hb dX7_crosses_51 rfl ?_
      refine lv_lload hx hb dX7_crosses_52 (lv_at hl 1 rfl) ?_
      refine lv_lmul hx hb dX7_crosses_54 ?_
      refine lv_iload hx hb dX7_crosses_55 (lv_at hl 8 rfl) ?_
      refine lv_i2l hx hb dX7_crosses_57 rfl ?_
      refine lv_lload hx hb dX7_crosses_58 (lv_at hl 1 rfl) ?_
      refine lv_lmul hx hb dX7_crosses_60 ?_
      refine va_mmin_long hx hb (hml.trans hl.1.symm) hown ml19 ms19 mI mc19 (Nat.le_of_ble_eq_true rfl) (Nat.le_of_ble_eq_true rfl) (Nat.zero_le _) (Nat.zero_le _) dX7_crosses_61 ?_
      refine lv_topl (fun x5 ex5 => ?_)
      have hf := lt_eq ex5 hf
      refine lv_lstore (lv' := [(11, .long x5), (9, .long x4), (7, .long x3), (0, .int a1), (1, .int a2), (2, .int a3), (3, .int a4), (4, .int a5), (5, .int a6), (6, .int a7)]) hx hb dX7_crosses_64 hl (by decide) rfl (fun ls hl => ?_)
      refine lv_iload hx hb dX7_crosses_66 (lv_at hl 8 rfl) ?_
      refine lv_i2l hx hb dX7_crosses_68 rfl ?_
      refine lv_lload hx hb dX7_crosses_69 (lv_at hl 2 rfl) ?_
      refine lv_lmul hx hb dX7_crosses_71 ?_
      refine lv_iload hx hb dX7_crosses_72 (lv_at hl 9 rfl) ?_
      refine lv_i2l hx hb dX7_crosses_74 rfl ?_
      refine lv_lload hx hb dX7_crosses_75 (lv_at hl 2 rfl) ?_
      refine lv_lmul hx hb dX7_crosses_77 ?_
      refine va_mmax_long hx hb (hml.trans hl.1.symm) hown ml22 ms22 mI mc22 (Nat.le_of_ble_eq_true rfl) (Nat.le_of_ble_eq_true rfl) (Nat.zero_le _) (Nat.zero_le _) dX7_crosses_78 ?_
      refine lv_topl (fun x6 ex6 => ?_)
      have hf := lt_eq ex6 hf
      refine lv_lstore (lv' := [(13, .long x6), (11, .long x5), (9, .long x4), (7, .long x3), (0, .int a1), (1, .int a2), (2, .int a3), (3, .int a4), (4, .int a5), (5, .int a6), (6, .int a7)]) hx hb dX7_crosses_81 hl (by decide) rfl (fun ls hl => ?_)
      refine lv_lload hx hb dX7_crosses_83 (lv_at hl 1 rfl) ?_
      refine lv_lload hx hb dX7_crosses_85 (lv_at hl 2 rfl) ?_
      refine W.lcmp hx hb dX7_crosses_87 ?_
      refine lv_if_gt (tgt := 103) hx hb dX7_crosses_88 (by decide) (fun c7 => ?_) (fun c7 => ?_)
      · have c7 := (lg_cmp_gt _ _).mp c7
        have hf := it_eq c7 hf
        refine lv_iconst (v := 0) hx hb dX7_crosses_103 (by decide) ?_
        exact e_rz C0 (b := false) rfl (hf.symm.trans hF) dX7_crosses_104
      · have c7 := fun h => c7 ((lg_cmp_gt _ _).mpr h)
        have hf := ie_eq c7 hf
        refine lv_lload hx hb dX7_crosses_91 (lv_at hl 2 rfl) ?_
        refine lv_lload hx hb dX7_crosses_93 (lv_at hl 0 rfl) ?_
        refine W.lcmp hx hb dX7_crosses_95 ?_
        refine lv_if_gt (tgt := 103) hx hb dX7_crosses_96 (by decide) (fun c8 => ?_) (fun c8 => ?_)
        · have c8 := (lg_cmp_gt _ _).mp c8
          have hf := it_eq c8 hf
          refine lv_iconst (v := 0) hx hb dX7_crosses_103 (by decide) ?_
          exact e_rz C0 (b := false) rfl (hf.symm.trans hF) dX7_crosses_104
        · have c8 := fun h => c8 ((lg_cmp_gt _ _).mpr h)
          have hf := ie_eq c8 hf
          refine lv_iconst (v := 1) hx hb dX7_crosses_99 (by decide) ?_
          refine lv_goto (tgt := 104) hx hb dX7_crosses_100 (by decide) ?_
          exact e_rz C0 (b := true) rfl (hf.symm.trans hF) dX7_crosses_104
    · have hf := ie_eq c2 hf
      refine lv_iconst (v := 0) hx hb dX7_crosses_20 (by decide) ?_
      exact e_rz C0 (b := false) rfl (hf.symm.trans hF) dX7_crosses_21
noncomputable def pX11_isBetween (a1 : Int32) (a2 : Int32) (a3 : Int32) : Bool := if a1 < a2 then (false) else (if a3 < a1 then (false) else (true))
abbrev rX11_isBetween : Room := { frames := 0, cells := 0, slots := 0, locals := 0 }
set_option maxHeartbeats 4000000 in
set_option maxRecDepth 100000 in
theorem mX11_isBetween (l : Launch) (dC : Nat → ClassId) (dI : Nat → Nat → Nat) (cI cB cO cL : ClassId)  (a1 : Int32) (a2 : Int32) (a3 : Int32) : Met l yX11_isBetween wsX11_isBetween rX11_isBetween (cP (dC, dI) (tYS cI cB cO cL) ([]) [.int a1, .int a2, .int a3]) (gRz (pX11_isBetween a1 a2 a3)) 0 0 (fun _ => False) := by
  refine cMet (cc := cX11_isBetween) (maxL := 3) (ret := some .boolean) [(0, .int a1), (1, .int a2), (2, .int a3)] (by decide) rfl rfl rfl ?_
  intro p e s mi below meth c C0 hK hE hP ls hl
  obtain ⟨hx, hb, hr, hml, hown, hts, hlocks⟩ := id C0
  have hown : s.vm.findClass RX11 = some mi.cls := hown
  obtain ⟨F, hF⟩ : ∃ F, F = pX11_isBetween a1 a2 a3 := ⟨_, rfl⟩
  have hf := hF
  refine lv_iload_n hx hb dX11_isBetween_0 rfl (lv_at hl 0 rfl) ?_
  refine lv_iload_n hx hb dX11_isBetween_1 rfl (lv_at hl 1 rfl) ?_
  refine lv_icmp_lt (tgt := 14) hx hb dX11_isBetween_2 (by decide) (fun c1 => ?_) (fun c1 => ?_)
  · have hf := it_eq c1 hf
    refine lv_iconst (v := 0) hx hb dX11_isBetween_14 (by decide) ?_
    exact e_rz C0 (b := false) rfl (hf.symm.trans hF) dX11_isBetween_15
  · have hf := ie_eq c1 hf
    refine lv_iload_n hx hb dX11_isBetween_5 rfl (lv_at hl 0 rfl) ?_
    refine lv_iload_n hx hb dX11_isBetween_6 rfl (lv_at hl 2 rfl) ?_
    refine lv_icmp_gt (tgt := 14) hx hb dX11_isBetween_7 (by decide) (fun c2 => ?_) (fun c2 => ?_)
    · have hf := it_eq c2 hf
      refine lv_iconst (v := 0) hx hb dX11_isBetween_14 (by decide) ?_
      exact e_rz C0 (b := false) rfl (hf.symm.trans hF) dX11_isBetween_15
    · have hf := ie_eq c2 hf
      refine lv_iconst (v := 1) hx hb dX11_isBetween_10 (by decide) ?_
      refine lv_goto (tgt := 15) hx hb dX11_isBetween_11 (by decide) ?_
      exact e_rz C0 (b := true) rfl (hf.symm.trans hF) dX11_isBetween_15
noncomputable def pX11_isClickPlace (a1 : Int32) (a2 : Int32) : Bool := if (pX11_isBetween a1 (-1000) 3000) = true then (if (pX11_isBetween a2 (-1000) 3000) = true then (true) else (false)) else (false)
abbrev rX11_isClickPlace : Room := { frames := 1, cells := 0, slots := 0, locals := 22 }
set_option maxHeartbeats 4000000 in
set_option maxRecDepth 100000 in
theorem mX11_isClickPlace (l : Launch) (dC : Nat → ClassId) (dI : Nat → Nat → Nat) (cI cB cO cL : ClassId)  (a1 : Int32) (a2 : Int32) : Met l yX11_isClickPlace wsX11_isClickPlace rX11_isClickPlace (cP (dC, dI) (tYS cI cB cO cL) ([]) [.int a1, .int a2]) (gRz (pX11_isClickPlace a1 a2)) 0 0 (fun _ => False) := by
  refine cMet (cc := cX11_isClickPlace) (maxL := 2) (ret := some .boolean) [(0, .int a1), (1, .int a2)] (by decide) rfl rfl rfl ?_
  intro p e s mi below meth c C0 hK hE hP ls hl
  obtain ⟨hx, hb, hr, hml, hown, hts, hlocks⟩ := id C0
  have hown : s.vm.findClass RX11 = some mi.cls := hown
  obtain ⟨F, hF⟩ : ∃ F, F = pX11_isClickPlace a1 a2 := ⟨_, rfl⟩
  have hf := hF
  refine lv_iload_n hx hb dX11_isClickPlace_0 rfl (lv_at hl 0 rfl) ?_
  refine lv_sipush (v := (-1000)) hx hb dX11_isClickPlace_1 (by decide) ?_
  refine lv_sipush (v := 3000) hx hb dX11_isClickPlace_4 (by decide) ?_
  refine gro_i (va_runS (As := [.int a1, .int (-1000), .int 3000]) (rest := []) ⟨hx, hb, hml, hown, hts⟩ (mX11_isBetween l dC dI cI cB cO cL  a1 (-1000) 3000  ) (va_cwS 3 hts gX11_isClickPlace_X11_isBetween rfl rfl rfl (by decide +kernel) ⟨Nat.le_of_ble_eq_true rfl, Nat.le_of_ble_eq_true rfl⟩) ⟨cP_blind, cP_ok va_P_nil hK hE⟩ rfl rfl hl.1 rfl (lv_room (Nat.le_of_ble_eq_true rfl)) dX11_isClickPlace_7 ⟨Nat.zero_le _, Nat.zero_le _⟩) ?_
  refine lv_if_eq (tgt := 30) hx hb dX11_isClickPlace_10 (by decide) (fun c1 => ?_) (fun c1 => ?_)
  · have c1 := bz_f c1
    have hf := ie_eq c1 hf
    refine lv_iconst (v := 0) hx hb dX11_isClickPlace_30 (by decide) ?_
    exact e_rz C0 (b := false) rfl (hf.symm.trans hF) dX11_isClickPlace_31
  · have c1 := bz_t c1
    have hf := it_eq c1 hf
    refine lv_iload_n hx hb dX11_isClickPlace_13 rfl (lv_at hl 1 rfl) ?_
    refine lv_sipush (v := (-1000)) hx hb dX11_isClickPlace_14 (by decide) ?_
    refine lv_sipush (v := 3000) hx hb dX11_isClickPlace_17 (by decide) ?_
    refine gro_i (va_runS (As := [.int a2, .int (-1000), .int 3000]) (rest := []) ⟨hx, hb, hml, hown, hts⟩ (mX11_isBetween l dC dI cI cB cO cL  a2 (-1000) 3000  ) (va_cwS 3 hts gX11_isClickPlace_X11_isBetween rfl rfl rfl (by decide +kernel) ⟨Nat.le_of_ble_eq_true rfl, Nat.le_of_ble_eq_true rfl⟩) ⟨cP_blind, cP_ok va_P_nil hK hE⟩ rfl rfl hl.1 rfl (lv_room (Nat.le_of_ble_eq_true rfl)) dX11_isClickPlace_20 ⟨Nat.zero_le _, Nat.zero_le _⟩) ?_
    refine lv_if_eq (tgt := 30) hx hb dX11_isClickPlace_23 (by decide) (fun c2 => ?_) (fun c2 => ?_)
    · have c2 := bz_f c2
      have hf := ie_eq c2 hf
      refine lv_iconst (v := 0) hx hb dX11_isClickPlace_30 (by decide) ?_
      exact e_rz C0 (b := false) rfl (hf.symm.trans hF) dX11_isClickPlace_31
    · have c2 := bz_t c2
      have hf := it_eq c2 hf
      refine lv_iconst (v := 1) hx hb dX11_isClickPlace_26 (by decide) ?_
      refine lv_goto (tgt := 31) hx hb dX11_isClickPlace_27 (by decide) ?_
      exact e_rz C0 (b := true) rfl (hf.symm.trans hF) dX11_isClickPlace_31
noncomputable def pX2_setting (b : BS) (a1 : Int32) : Int32 := pX9_at 7 1 7 (b.1 7, b.2 3) a1 0
def kX2_setting (b : BS) (a1 : Int32) : Prop := kX9_at 7 1 7 (b.1 7, b.2 3) a1 0
abbrev rX2_setting : Room := { frames := 1, cells := 0, slots := 0, locals := 22 }
set_option maxHeartbeats 4000000 in
set_option maxRecDepth 100000 in
theorem mX2_setting (l : Launch) (dC : Nat → ClassId) (dI : Nat → Nat → Nat) (cI cB cO cL : ClassId) (qb : Nat → Nat) (b : BS) (a1 : Int32) (hok : kX2_setting b a1) : Met l yX2_setting wsX2_setting rX2_setting (cP (dC, dI) (tYS cI cB cO cL) (bw qb cI b) [.ref (qb 0), .int a1]) (gRi (pX2_setting b a1)) 0 0 (fun _ => False) := by
  refine cMet (cc := cX2_setting) (maxL := 2) (ret := some .int) [(0, .ref (qb 0)), (1, .int a1)] (by decide) rfl rfl rfl ?_
  intro p e s mi below meth c C0 hK hE hP ls hl
  obtain ⟨hx, hb, hr, hml, hown, hts, hlocks⟩ := id C0
  have hown : s.vm.findClass RX2 = some mi.cls := hown
  obtain ⟨F, hF⟩ : ∃ F, F = pX2_setting b a1 := ⟨_, rfl⟩
  have hf := hF
  have hin2 : ∀ w ∈ u_ws RX2 TX2 8, w ∈ wsX2_setting := by decide +kernel
  have fl43 := hts (.fieldLink RX2 43 "ClickBench$Bench" "settings" "LClickBench$Table;") (by decide +kernel)
  refine lv_aload_n hx hb dX2_setting_0 rfl (lv_at hl 0 rfl) ?_
  refine va_get (D := (dC, dI)) (ci := 1) (v := .ref (qb 7)) (C := RX2) (T := TX2) (N := 8) hx hb hts hin2 hown hK hP 0 rfl rfl 7 (by decide) fl43 (fun _ h9 => h9) rfl dX2_setting_1 ?_
  refine lv_iload_n hx hb dX2_setting_4 rfl (lv_at hl 1 rfl) ?_
  refine lv_iconst (v := 0) hx hb dX2_setting_5 (by decide) ?_
  have h1 : kX9_at 7 1 7 (b.1 7, b.2 3) a1 0 := hok
  have hPc := hP.sub (ws' := tw (tad (qb 7) (qb 8)) cI 7 1 7 (b.1 7, b.2 3)) [7, 8] rfl
  refine gro_i (va_runV (As := [.int a1, .int 0]) (rest := []) ⟨hx, hb, hml, hown, hts⟩ (mX9_at l dC dI cI cB cO cL (tad (qb 7) (qb 8)) 7 1 7 (b.1 7, b.2 3) a1 0  h1) (cwV 2 hts gX2_setting_X9_at rfl rfl rfl (by decide +kernel) ⟨Nat.le_of_ble_eq_true rfl, Nat.le_of_ble_eq_true rfl⟩) ⟨cP_blind, va_recv hK hPc (ci := 6) (q0 := 0) rfl rfl, cP_ok hPc hK hE⟩ rfl rfl hl.1 rfl (lv_room (Nat.le_of_ble_eq_true rfl)) dX2_setting_6 ⟨Nat.zero_le _, Nat.zero_le _⟩) ?_
  exact e_ri C0 (hf.symm.trans hF) dX2_setting_9
noncomputable def pX2_refusalOfField (b : BS) (a1 : Int32) (a2 : Int32) : Int32 := if (pX11_isBetween a1 2 20) = true then (if (pX11_isBetween a2 2 20) = true then (0) else (2)) else (2)
abbrev rX2_refusalOfField : Room := { frames := 1, cells := 0, slots := 0, locals := 22 }
set_option maxHeartbeats 4000000 in
set_option maxRecDepth 100000 in
theorem mX2_refusalOfField (l : Launch) (dC : Nat → ClassId) (dI : Nat → Nat → Nat) (cI cB cO cL : ClassId) (qb : Nat → Nat) (b : BS) (a1 : Int32) (a2 : Int32) : Met l yX2_refusalOfField wsX2_refusalOfField rX2_refusalOfField (cP (dC, dI) (tYS cI cB cO cL) (bw qb cI b) [.ref (qb 0), .int a1, .int a2]) (gRi (pX2_refusalOfField b a1 a2)) 0 0 (fun _ => False) := by
  refine cMet (cc := cX2_refusalOfField) (maxL := 3) (ret := some .int) [(0, .ref (qb 0)), (1, .int a1), (2, .int a2)] (by decide) rfl rfl rfl ?_
  intro p e s mi below meth c C0 hK hE hP ls hl
  obtain ⟨hx, hb, hr, hml, hown, hts, hlocks⟩ := id C0
  have hown : s.vm.findClass RX2 = some mi.cls := hown
  obtain ⟨F, hF⟩ : ∃ F, F = pX2_refusalOfField b a1 a2 := ⟨_, rfl⟩
  have hf := hF
  refine lv_iload_n hx hb dX2_refusalOfField_0 rfl (lv_at hl 1 rfl) ?_
  refine lv_iconst (v := 2) hx hb dX2_refusalOfField_1 (by decide) ?_
  refine lv_bipush (v := 20) hx hb dX2_refusalOfField_2 (by decide) ?_
  refine gro_i (va_runSN (As := [.int a1, .int 2, .int 20]) (rest := []) ⟨hx, hb, hml, hown, hts⟩ (mX11_isBetween l dC dI cI cB cO cL  a1 2 20  ) ⟨va_cnB 3 hts gX2_refusalOfField_X11_isBetween_n65 rfl rfl rfl (eN.at hE (own := RX2) (idx := 65) (y := yX11_isBetween) (host := "ClickBench") (by decide +kernel)) (hts (.initialized RX11) (by decide +kernel)) (by decide +kernel) ⟨Nat.le_of_ble_eq_true rfl, Nat.le_of_ble_eq_true rfl⟩, hts (.static yX11_isBetween) (by decide +kernel), trivial⟩ ⟨cP_blind, cP_ok va_P_nil hK hE⟩ rfl rfl hl.1 rfl (lv_room (Nat.le_of_ble_eq_true rfl)) dX2_refusalOfField_4 ⟨Nat.zero_le _, Nat.zero_le _⟩) ?_
  refine lv_if_eq (tgt := 24) hx hb dX2_refusalOfField_7 (by decide) (fun c1 => ?_) (fun c1 => ?_)
  · have c1 := bz_f c1
    have hf := ie_eq c1 hf
    refine lv_iconst (v := 2) hx hb dX2_refusalOfField_24 (by decide) ?_
    exact e_ri C0 (hf.symm.trans hF) dX2_refusalOfField_25
  · have c1 := bz_t c1
    have hf := it_eq c1 hf
    refine lv_iload_n hx hb dX2_refusalOfField_10 rfl (lv_at hl 2 rfl) ?_
    refine lv_iconst (v := 2) hx hb dX2_refusalOfField_11 (by decide) ?_
    refine lv_bipush (v := 20) hx hb dX2_refusalOfField_12 (by decide) ?_
    refine gro_i (va_runSN (As := [.int a2, .int 2, .int 20]) (rest := []) ⟨hx, hb, hml, hown, hts⟩ (mX11_isBetween l dC dI cI cB cO cL  a2 2 20  ) ⟨va_cnB 3 hts gX2_refusalOfField_X11_isBetween_n65 rfl rfl rfl (eN.at hE (own := RX2) (idx := 65) (y := yX11_isBetween) (host := "ClickBench") (by decide +kernel)) (hts (.initialized RX11) (by decide +kernel)) (by decide +kernel) ⟨Nat.le_of_ble_eq_true rfl, Nat.le_of_ble_eq_true rfl⟩, hts (.static yX11_isBetween) (by decide +kernel), trivial⟩ ⟨cP_blind, cP_ok va_P_nil hK hE⟩ rfl rfl hl.1 rfl (lv_room (Nat.le_of_ble_eq_true rfl)) dX2_refusalOfField_14 ⟨Nat.zero_le _, Nat.zero_le _⟩) ?_
    refine lv_if_eq (tgt := 24) hx hb dX2_refusalOfField_17 (by decide) (fun c2 => ?_) (fun c2 => ?_)
    · have c2 := bz_f c2
      have hf := ie_eq c2 hf
      refine lv_iconst (v := 2) hx hb dX2_refusalOfField_24 (by decide) ?_
      exact e_ri C0 (hf.symm.trans hF) dX2_refusalOfField_25
    · have c2 := bz_t c2
      have hf := it_eq c2 hf
      refine lv_iconst (v := 0) hx hb dX2_refusalOfField_20 (by decide) ?_
      refine lv_goto (tgt := 25) hx hb dX2_refusalOfField_21 (by decide) ?_
      exact e_ri C0 (hf.symm.trans hF) dX2_refusalOfField_25
noncomputable def pX2_startField (b : BS) (a1 : Int32) (a2 : Int32) : Int32 × BS := lt (b.1 2) fun (x1 : Int32) => lt (bsi b 0 a1) fun (b_2 : BS) => lt (bsi b_2 1 a2) fun (b_3 : BS) => lt (bsi b_3 2 0) fun (b_4 : BS) => lt (bsi b_4 4 0) fun (b_5 : BS) => lt (bsi b_5 5 0) fun (b_6 : BS) => lt (bsi b_6 6 0) fun (b_7 : BS) => (x1, b_7)
abbrev rX2_startField : Room := { frames := 0, cells := 0, slots := 0, locals := 0 }
set_option maxHeartbeats 4000000 in
set_option maxRecDepth 100000 in
theorem mX2_startField (l : Launch) (dC : Nat → ClassId) (dI : Nat → Nat → Nat) (cI cB cO cL : ClassId) (qb : Nat → Nat) (b : BS) (a1 : Int32) (a2 : Int32) (hI : gD (fun _ => True) (bAd qb)) : Met l yX2_startField wsX2_startField rX2_startField (cP (dC, dI) (tYS cI cB cO cL) (bw qb cI b) [.ref (qb 0), .int a1, .int a2]) (gQi (dC, dI) (fun z9 => bw qb cI z9) (wA (bw qb cI b)) (pX2_startField b a1 a2)) 0 0 (wA (bw qb cI b)) := by
  refine cMet (cc := cX2_startField) (maxL := 4) (ret := some .int) [(0, .ref (qb 0)), (1, .int a1), (2, .int a2)] (by decide) rfl rfl rfl ?_
  intro p e s mi below meth c C0 hK hE hP ls hl
  obtain ⟨hx, hb, hr, hml, hown, hts, hlocks⟩ := id C0
  have hown : s.vm.findClass RX2 = some mi.cls := hown
  have hS : va_S (wA (bw qb cI b)) s.heap s.heap [] := va_S.rf
  have hD : gD (wA (bw qb cI b)) (bAd qb) := gD_wA (ws := bw qb cI b) hI
  have hP : va_P (dC, dI) vwCl (bw qb cI b) s.heap := hP
  obtain ⟨F, hF⟩ : ∃ F, F = pX2_startField b a1 a2 := ⟨_, rfl⟩
  have hf := hF
  have hin2 : ∀ w ∈ u_ws RX2 TX2 8, w ∈ wsX2_startField := by decide +kernel
  have hin9 : ∀ w ∈ u_ws RX9 TX9 4, w ∈ wsX2_startField := by decide +kernel
  have fl18 := hts (.fieldLink RX2 18 "ClickBench$Bench" "clicks" "I") (by decide +kernel)
  have fl9 := hts (.fieldLink RX2 9 "ClickBench$Bench" "columns" "I") (by decide +kernel)
  have fl15 := hts (.fieldLink RX2 15 "ClickBench$Bench" "rows" "I") (by decide +kernel)
  have fl29 := hts (.fieldLink RX2 29 "ClickBench$Bench" "microphones" "LClickBench$Table;") (by decide +kernel)
  have fl69 := hts (.fieldLink RX2 69 "ClickBench$Table" "count" "I") (by decide +kernel)
  have fl37 := hts (.fieldLink RX2 37 "ClickBench$Bench" "walls" "LClickBench$Table;") (by decide +kernel)
  have fl40 := hts (.fieldLink RX2 40 "ClickBench$Bench" "screens" "LClickBench$Table;") (by decide +kernel)
  refine lv_aload_n hx hb dX2_startField_0 rfl (lv_at hl 0 rfl) ?_
  refine va_get (D := (dC, dI)) (ci := 1) (v := .int (b.1 2)) (C := RX2) (T := TX2) (N := 8) hx hb hts hin2 hown hK hP 0 rfl rfl 2 (by decide) fl18 (fun _ h9 => h9) rfl dX2_startField_1 ?_
  refine lv_topi (fun x1 ex1 => ?_)
  have hf := lt_eq ex1 hf
  refine lv_istore_n (lv' := [(3, .int x1), (0, .ref (qb 0)), (1, .int a1), (2, .int a2)]) hx hb dX2_startField_4 rfl hl (by decide) rfl (fun ls hl => ?_)
  refine lv_aload_n hx hb dX2_startField_5 rfl (lv_at hl 1 rfl) ?_
  refine lv_iload_n hx hb dX2_startField_6 rfl (lv_at hl 2 rfl) ?_
  refine va_put (D := (dC, dI)) (ci := 1) (v := .int a1) (ty := .int) (C := RX2) (T := TX2) (N := 8) hx hb hts hin2 tyX2 tyX2_ok nmX2 hown hK hP (gD_va hD rfl) hS 0 rfl rfl 0 (by decide) fl9 (fun _ h9 => h9) rfl (by decide +kernel) rfl rfl (Nat.le_of_ble_eq_true rfl) dX2_startField_7 (fun H locs hP _ hS => ?_)
  obtain ⟨b_2, eb_2⟩ : ∃ z9 : BS, z9 = bsi b 0 a1 := ⟨_, rfl⟩
  have hP : va_P (dC, dI) vwCl (bw qb cI b_2) H := by rw [eb_2]; exact hP
  have hf := lt_eq eb_2 hf
  refine lv_aload_n hx hb dX2_startField_10 rfl (lv_at hl 1 rfl) ?_
  refine lv_iload_n hx hb dX2_startField_11 rfl (lv_at hl 3 rfl) ?_
  refine va_put (D := (dC, dI)) (ci := 1) (v := .int a2) (ty := .int) (C := RX2) (T := TX2) (N := 8) hx hb hts hin2 tyX2 tyX2_ok nmX2 hown hK hP (gD_va hD rfl) hS 0 rfl rfl 1 (by decide) fl15 (fun _ h9 => h9) rfl (by decide +kernel) rfl rfl (Nat.le_of_ble_eq_true rfl) dX2_startField_12 (fun H locs hP _ hS => ?_)
  obtain ⟨b_3, eb_3⟩ : ∃ z9 : BS, z9 = bsi b_2 1 a2 := ⟨_, rfl⟩
  have hP : va_P (dC, dI) vwCl (bw qb cI b_3) H := by rw [eb_3]; exact hP
  have hf := lt_eq eb_3 hf
  refine lv_aload_n hx hb dX2_startField_15 rfl (lv_at hl 1 rfl) ?_
  refine lv_iconst (v := 0) hx hb dX2_startField_16 (by decide) ?_
  refine va_put (D := (dC, dI)) (ci := 1) (v := .int 0) (ty := .int) (C := RX2) (T := TX2) (N := 8) hx hb hts hin2 tyX2 tyX2_ok nmX2 hown hK hP (gD_va hD rfl) hS 0 rfl rfl 2 (by decide) fl18 (fun _ h9 => h9) rfl (by decide +kernel) rfl rfl (Nat.le_of_ble_eq_true rfl) dX2_startField_17 (fun H locs hP _ hS => ?_)
  obtain ⟨b_4, eb_4⟩ : ∃ z9 : BS, z9 = bsi b_3 2 0 := ⟨_, rfl⟩
  have hP : va_P (dC, dI) vwCl (bw qb cI b_4) H := by rw [eb_4]; exact hP
  have hf := lt_eq eb_4 hf
  refine lv_aload_n hx hb dX2_startField_20 rfl (lv_at hl 1 rfl) ?_
  refine va_get (D := (dC, dI)) (ci := 1) (v := .ref (qb 1)) (C := RX2) (T := TX2) (N := 8) hx hb hts hin2 hown hK hP 0 rfl rfl 4 (by decide) fl29 (fun _ h9 => h9) rfl dX2_startField_21 ?_
  refine lv_iconst (v := 0) hx hb dX2_startField_24 (by decide) ?_
  refine va_put (D := (dC, dI)) (ci := 6) (v := .int 0) (ty := .int) (C := RX9) (T := TX9) (N := 4) hx hb hts hin9 tyX9 tyX9_ok nmX9 hown hK hP (gD_va hD rfl) hS 1 rfl rfl 3 (by decide) fl69 (fun _ h9 => h9) rfl (by decide +kernel) rfl rfl (Nat.le_of_ble_eq_true rfl) dX2_startField_25 (fun H locs hP _ hS => ?_)
  obtain ⟨b_5, eb_5⟩ : ∃ z9 : BS, z9 = bsi b_4 4 0 := ⟨_, rfl⟩
  have hP : va_P (dC, dI) vwCl (bw qb cI b_5) H := by rw [eb_5]; exact hP
  have hf := lt_eq eb_5 hf
  refine lv_aload_n hx hb dX2_startField_28 rfl (lv_at hl 1 rfl) ?_
  refine va_get (D := (dC, dI)) (ci := 1) (v := .ref (qb 3)) (C := RX2) (T := TX2) (N := 8) hx hb hts hin2 hown hK hP 0 rfl rfl 5 (by decide) fl37 (fun _ h9 => h9) rfl dX2_startField_29 ?_
  refine lv_iconst (v := 0) hx hb dX2_startField_32 (by decide) ?_
  refine va_put (D := (dC, dI)) (ci := 6) (v := .int 0) (ty := .int) (C := RX9) (T := TX9) (N := 4) hx hb hts hin9 tyX9 tyX9_ok nmX9 hown hK hP (gD_va hD rfl) hS 3 rfl rfl 3 (by decide) fl69 (fun _ h9 => h9) rfl (by decide +kernel) rfl rfl (Nat.le_of_ble_eq_true rfl) dX2_startField_33 (fun H locs hP _ hS => ?_)
  obtain ⟨b_6, eb_6⟩ : ∃ z9 : BS, z9 = bsi b_5 5 0 := ⟨_, rfl⟩
  have hP : va_P (dC, dI) vwCl (bw qb cI b_6) H := by rw [eb_6]; exact hP
  have hf := lt_eq eb_6 hf
  refine lv_aload_n hx hb dX2_startField_36 rfl (lv_at hl 1 rfl) ?_
  refine va_get (D := (dC, dI)) (ci := 1) (v := .ref (qb 5)) (C := RX2) (T := TX2) (N := 8) hx hb hts hin2 hown hK hP 0 rfl rfl 6 (by decide) fl40 (fun _ h9 => h9) rfl dX2_startField_37 ?_
  refine lv_iconst (v := 0) hx hb dX2_startField_40 (by decide) ?_
  refine va_put (D := (dC, dI)) (ci := 6) (v := .int 0) (ty := .int) (C := RX9) (T := TX9) (N := 4) hx hb hts hin9 tyX9 tyX9_ok nmX9 hown hK hP (gD_va hD rfl) hS 5 rfl rfl 3 (by decide) fl69 (fun _ h9 => h9) rfl (by decide +kernel) rfl rfl (Nat.le_of_ble_eq_true rfl) dX2_startField_41 (fun H locs hP _ hS => ?_)
  obtain ⟨b_7, eb_7⟩ : ∃ z9 : BS, z9 = bsi b_6 6 0 := ⟨_, rfl⟩
  have hP : va_P (dC, dI) vwCl (bw qb cI b_7) H := by rw [eb_7]; exact hP
  have hf := lt_eq eb_7 hf
  refine lv_iload_n hx hb dX2_startField_44 rfl (lv_at hl 0 rfl) ?_
  exact e_mi C0 (hf.symm.trans hF) hP hS dX2_startField_45
noncomputable def pX2_refusalOfMicrophone (b : BS) (a1 : Int32) (a2 : Int32) : Int32 := if (pX11_isBetween a1 (-500) 2500) = true then (if (pX11_isBetween a2 (-500) 2500) = true then (if (pX9_isFull 8 9 72 (b.1 4, b.2 0)) = true then (3) else (0)) else (2)) else (2)
abbrev rX2_refusalOfMicrophone : Room := { frames := 1, cells := 0, slots := 0, locals := 22 }
set_option maxHeartbeats 4000000 in
set_option maxRecDepth 100000 in
theorem mX2_refusalOfMicrophone (l : Launch) (dC : Nat → ClassId) (dI : Nat → Nat → Nat) (cI cB cO cL : ClassId) (qb : Nat → Nat) (b : BS) (a1 : Int32) (a2 : Int32) : Met l yX2_refusalOfMicrophone wsX2_refusalOfMicrophone rX2_refusalOfMicrophone (cP (dC, dI) (tYS cI cB cO cL) (bw qb cI b) [.ref (qb 0), .int a1, .int a2]) (gRi (pX2_refusalOfMicrophone b a1 a2)) 0 0 (fun _ => False) := by
  refine cMet (cc := cX2_refusalOfMicrophone) (maxL := 3) (ret := some .int) [(0, .ref (qb 0)), (1, .int a1), (2, .int a2)] (by decide) rfl rfl rfl ?_
  intro p e s mi below meth c C0 hK hE hP ls hl
  obtain ⟨hx, hb, hr, hml, hown, hts, hlocks⟩ := id C0
  have hown : s.vm.findClass RX2 = some mi.cls := hown
  obtain ⟨F, hF⟩ : ∃ F, F = pX2_refusalOfMicrophone b a1 a2 := ⟨_, rfl⟩
  have hf := hF
  have hin2 : ∀ w ∈ u_ws RX2 TX2 8, w ∈ wsX2_refusalOfMicrophone := by decide +kernel
  have fl29 := hts (.fieldLink RX2 29 "ClickBench$Bench" "microphones" "LClickBench$Table;") (by decide +kernel)
  refine lv_iload_n hx hb dX2_refusalOfMicrophone_0 rfl (lv_at hl 1 rfl) ?_
  refine lv_sipush (v := (-500)) hx hb dX2_refusalOfMicrophone_1 (by decide) ?_
  refine lv_sipush (v := 2500) hx hb dX2_refusalOfMicrophone_4 (by decide) ?_
  refine gro_i (va_runSN (As := [.int a1, .int (-500), .int 2500]) (rest := []) ⟨hx, hb, hml, hown, hts⟩ (mX11_isBetween l dC dI cI cB cO cL  a1 (-500) 2500  ) ⟨va_cnB 3 hts gX2_refusalOfMicrophone_X11_isBetween_n65 rfl rfl rfl (eN.at hE (own := RX2) (idx := 65) (y := yX11_isBetween) (host := "ClickBench") (by decide +kernel)) (hts (.initialized RX11) (by decide +kernel)) (by decide +kernel) ⟨Nat.le_of_ble_eq_true rfl, Nat.le_of_ble_eq_true rfl⟩, hts (.static yX11_isBetween) (by decide +kernel), trivial⟩ ⟨cP_blind, cP_ok va_P_nil hK hE⟩ rfl rfl hl.1 rfl (lv_room (Nat.le_of_ble_eq_true rfl)) dX2_refusalOfMicrophone_7 ⟨Nat.zero_le _, Nat.zero_le _⟩) ?_
  refine lv_if_eq (tgt := 26) hx hb dX2_refusalOfMicrophone_10 (by decide) (fun c1 => ?_) (fun c1 => ?_)
  · have c1 := bz_f c1
    have hf := ie_eq c1 hf
    refine lv_iconst (v := 2) hx hb dX2_refusalOfMicrophone_26 (by decide) ?_
    exact e_ri C0 (hf.symm.trans hF) dX2_refusalOfMicrophone_27
  · have c1 := bz_t c1
    have hf := it_eq c1 hf
    refine lv_iload_n hx hb dX2_refusalOfMicrophone_13 rfl (lv_at hl 2 rfl) ?_
    refine lv_sipush (v := (-500)) hx hb dX2_refusalOfMicrophone_14 (by decide) ?_
    refine lv_sipush (v := 2500) hx hb dX2_refusalOfMicrophone_17 (by decide) ?_
    refine gro_i (va_runSN (As := [.int a2, .int (-500), .int 2500]) (rest := []) ⟨hx, hb, hml, hown, hts⟩ (mX11_isBetween l dC dI cI cB cO cL  a2 (-500) 2500  ) ⟨va_cnB 3 hts gX2_refusalOfMicrophone_X11_isBetween_n65 rfl rfl rfl (eN.at hE (own := RX2) (idx := 65) (y := yX11_isBetween) (host := "ClickBench") (by decide +kernel)) (hts (.initialized RX11) (by decide +kernel)) (by decide +kernel) ⟨Nat.le_of_ble_eq_true rfl, Nat.le_of_ble_eq_true rfl⟩, hts (.static yX11_isBetween) (by decide +kernel), trivial⟩ ⟨cP_blind, cP_ok va_P_nil hK hE⟩ rfl rfl hl.1 rfl (lv_room (Nat.le_of_ble_eq_true rfl)) dX2_refusalOfMicrophone_20 ⟨Nat.zero_le _, Nat.zero_le _⟩) ?_
    refine lv_if_ne (tgt := 28) hx hb dX2_refusalOfMicrophone_23 (by decide) (fun c2 => ?_) (fun c2 => ?_)
    · have c2 := bz_t c2
      have hf := it_eq c2 hf
      refine lv_aload_n hx hb dX2_refusalOfMicrophone_28 rfl (lv_at hl 0 rfl) ?_
      refine va_get (D := (dC, dI)) (ci := 1) (v := .ref (qb 1)) (C := RX2) (T := TX2) (N := 8) hx hb hts hin2 hown hK hP 0 rfl rfl 4 (by decide) fl29 (fun _ h9 => h9) rfl dX2_refusalOfMicrophone_29 ?_
      have hPc := hP.sub (ws' := tw (tad (qb 1) (qb 2)) cI 8 9 72 (b.1 4, b.2 0)) [1, 2] rfl
      refine gro_i (va_runV (As := []) (rest := []) ⟨hx, hb, hml, hown, hts⟩ (mX9_isFull l dC dI cI cB cO cL (tad (qb 1) (qb 2)) 8 9 72 (b.1 4, b.2 0)  ) (cwV 0 hts gX2_refusalOfMicrophone_X9_isFull rfl rfl rfl (by decide +kernel) ⟨Nat.le_of_ble_eq_true rfl, Nat.le_of_ble_eq_true rfl⟩) ⟨cP_blind, va_recv hK hPc (ci := 6) (q0 := 0) rfl rfl, cP_ok hPc hK hE⟩ rfl rfl hl.1 rfl (lv_room (Nat.le_of_ble_eq_true rfl)) dX2_refusalOfMicrophone_32 ⟨Nat.zero_le _, Nat.zero_le _⟩) ?_
      refine lv_if_eq (tgt := 42) hx hb dX2_refusalOfMicrophone_35 (by decide) (fun c3 => ?_) (fun c3 => ?_)
      · have c3 := bz_f c3
        have hf := ie_eq c3 hf
        refine lv_iconst (v := 0) hx hb dX2_refusalOfMicrophone_42 (by decide) ?_
        exact e_ri C0 (hf.symm.trans hF) dX2_refusalOfMicrophone_43
      · have c3 := bz_t c3
        have hf := it_eq c3 hf
        refine lv_iconst (v := 3) hx hb dX2_refusalOfMicrophone_38 (by decide) ?_
        refine lv_goto (tgt := 43) hx hb dX2_refusalOfMicrophone_39 (by decide) ?_
        exact e_ri C0 (hf.symm.trans hF) dX2_refusalOfMicrophone_43
    · have c2 := bz_f c2
      have hf := ie_eq c2 hf
      refine lv_iconst (v := 2) hx hb dX2_refusalOfMicrophone_26 (by decide) ?_
      exact e_ri C0 (hf.symm.trans hF) dX2_refusalOfMicrophone_27
noncomputable def pX2_placeMicrophone (b : BS) (a1 : Int32) (a2 : Int32) : Int32 × BS := bd (pX9_addRow 8 9 72 (b.1 4, b.2 0)) fun (r2 : Int32) (u3 : TS) => lt (pX9_put 8 9 72 ((bst b 0 u3).1 4, (bst b 0 u3).2 0) r2 0 a1) fun (u6 : TS) => lt (pX9_put 8 9 72 ((bst (bst b 0 u3) 0 u6).1 4, (bst (bst b 0 u3) 0 u6).2 0) r2 1 a2) fun (u9 : TS) => lt (pX9_put 8 9 72 ((bst (bst (bst b 0 u3) 0 u6) 0 u9).1 4, (bst (bst (bst b 0 u3) 0 u6) 0 u9).2 0) r2 2 0) fun (u12 : TS) => lt (pX9_put 8 9 72 ((bst (bst (bst (bst b 0 u3) 0 u6) 0 u9) 0 u12).1 4, (bst (bst (bst (bst b 0 u3) 0 u6) 0 u9) 0 u12).2 0) r2 3 0) fun (u15 : TS) => (r2, bst (bst (bst (bst (bst b 0 u3) 0 u6) 0 u9) 0 u12) 0 u15)
def kX2_placeMicrophone (b : BS) (a1 : Int32) (a2 : Int32) : Prop := (kX9_addRow 8 9 72 (b.1 4, b.2 0)) ∧ (bd (pX9_addRow 8 9 72 (b.1 4, b.2 0)) fun (r2 : Int32) (u3 : TS) => (kX9_put 8 9 72 ((bst b 0 u3).1 4, (bst b 0 u3).2 0) r2 0 a1) ∧ (lt (pX9_put 8 9 72 ((bst b 0 u3).1 4, (bst b 0 u3).2 0) r2 0 a1) fun (u6 : TS) => (kX9_put 8 9 72 ((bst (bst b 0 u3) 0 u6).1 4, (bst (bst b 0 u3) 0 u6).2 0) r2 1 a2) ∧ (lt (pX9_put 8 9 72 ((bst (bst b 0 u3) 0 u6).1 4, (bst (bst b 0 u3) 0 u6).2 0) r2 1 a2) fun (u9 : TS) => (kX9_put 8 9 72 ((bst (bst (bst b 0 u3) 0 u6) 0 u9).1 4, (bst (bst (bst b 0 u3) 0 u6) 0 u9).2 0) r2 2 0) ∧ (lt (pX9_put 8 9 72 ((bst (bst (bst b 0 u3) 0 u6) 0 u9).1 4, (bst (bst (bst b 0 u3) 0 u6) 0 u9).2 0) r2 2 0) fun (u12 : TS) => kX9_put 8 9 72 ((bst (bst (bst (bst b 0 u3) 0 u6) 0 u9) 0 u12).1 4, (bst (bst (bst (bst b 0 u3) 0 u6) 0 u9) 0 u12).2 0) r2 3 0))))
abbrev rX2_placeMicrophone : Room := { frames := 2, cells := 0, slots := 0, locals := 45 }
set_option maxHeartbeats 4000000 in
set_option maxRecDepth 100000 in
theorem mX2_placeMicrophone (l : Launch) (dC : Nat → ClassId) (dI : Nat → Nat → Nat) (cI cB cO cL : ClassId) (qb : Nat → Nat) (b : BS) (a1 : Int32) (a2 : Int32) (hI : gD (fun _ => True) (bAd qb)) (hok : kX2_placeMicrophone b a1 a2) : Met l yX2_placeMicrophone wsX2_placeMicrophone rX2_placeMicrophone (cP (dC, dI) (tYS cI cB cO cL) (bw qb cI b) [.ref (qb 0), .int a1, .int a2]) (gQi (dC, dI) (fun z9 => bw qb cI z9) (wA (bw qb cI b)) (pX2_placeMicrophone b a1 a2)) 0 0 (wA (bw qb cI b)) := by
  refine cMet (cc := cX2_placeMicrophone) (maxL := 4) (ret := some .int) [(0, .ref (qb 0)), (1, .int a1), (2, .int a2)] (by decide) rfl rfl rfl ?_
  intro p e s mi below meth c C0 hK hE hP ls hl
  obtain ⟨hx, hb, hr, hml, hown, hts, hlocks⟩ := id C0
  have hown : s.vm.findClass RX2 = some mi.cls := hown
  have hS : va_S (wA (bw qb cI b)) s.heap s.heap [] := va_S.rf
  have hD : gD (wA (bw qb cI b)) (bAd qb) := gD_wA (ws := bw qb cI b) hI
  have hP : va_P (dC, dI) vwCl (bw qb cI b) s.heap := hP
  obtain ⟨F, hF⟩ : ∃ F, F = pX2_placeMicrophone b a1 a2 := ⟨_, rfl⟩
  have hf := hF
  have hin2 : ∀ w ∈ u_ws RX2 TX2 8, w ∈ wsX2_placeMicrophone := by decide +kernel
  have fl29 := hts (.fieldLink RX2 29 "ClickBench$Bench" "microphones" "LClickBench$Table;") (by decide +kernel)
  refine lv_aload_n hx hb dX2_placeMicrophone_0 rfl (lv_at hl 0 rfl) ?_
  refine va_get (D := (dC, dI)) (ci := 1) (v := .ref (qb 1)) (C := RX2) (T := TX2) (N := 8) hx hb hts hin2 hown hK hP 0 rfl rfl 4 (by decide) fl29 (fun _ h9 => h9) rfl dX2_placeMicrophone_1 ?_
  obtain ⟨h1, hok⟩ := hok
  have hPc := hP.sub (ws' := tw (tad (qb 1) (qb 2)) cI 8 9 72 (b.1 4, b.2 0)) [1, 2] rfl
  refine gmu_i (va_runV (As := []) (rest := []) ⟨hx, hb, hml, hown, hts⟩ (mX9_addRow l dC dI cI cB cO cL (tad (qb 1) (qb 2)) 8 9 72 (b.1 4, b.2 0) (gD_subT hD [1, 2] rfl rfl) h1) (cwV 0 hts gX2_placeMicrophone_X9_addRow rfl rfl rfl (by decide +kernel) ⟨Nat.le_of_ble_eq_true rfl, Nat.le_of_ble_eq_true rfl⟩) ⟨cP_blind, va_recv hK hPc (ci := 6) (q0 := 0) rfl rfl, cP_ok hPc hK hE⟩ rfl rfl hl.1 rfl (lv_room (Nat.le_of_ble_eq_true rfl)) dX2_placeMicrophone_4 ⟨Nat.zero_le _, Nat.zero_le _⟩) hP (gD_va hD rfl) hS [1, 2] rfl (fun _ => rfl) (fun r2 u3 H locs hw hP hS => ?_)
  have hP : va_P (dC, dI) vwCl (bw qb cI (bst b 0 u3)) H := hP
  have hf := bd_eq hw hf
  have hok := bd_ok hw hok
  refine lv_istore_n (lv' := [(3, .int r2), (0, .ref (qb 0)), (1, .int a1), (2, .int a2)]) hx hb dX2_placeMicrophone_7 rfl hl (by decide) rfl (fun ls hl => ?_)
  refine lv_aload_n hx hb dX2_placeMicrophone_8 rfl (lv_at hl 1 rfl) ?_
  refine va_get (D := (dC, dI)) (ci := 1) (v := .ref (qb 1)) (C := RX2) (T := TX2) (N := 8) hx hb hts hin2 hown hK hP 0 rfl rfl 4 (by decide) fl29 (fun _ h9 => h9) rfl dX2_placeMicrophone_9 ?_
  refine lv_iload_n hx hb dX2_placeMicrophone_12 rfl (lv_at hl 0 rfl) ?_
  refine lv_iconst (v := 0) hx hb dX2_placeMicrophone_13 (by decide) ?_
  refine lv_iload_n hx hb dX2_placeMicrophone_14 rfl (lv_at hl 2 rfl) ?_
  obtain ⟨h4, hok⟩ := hok
  have hPc := hP.sub (ws' := tw (tad (qb 1) (qb 2)) cI 8 9 72 ((bst b 0 u3).1 4, (bst b 0 u3).2 0)) [1, 2] rfl
  refine gmu_v (va_runV (As := [.int r2, .int 0, .int a1]) (rest := []) ⟨hx, hb, hml, hown, hts⟩ (mX9_put l dC dI cI cB cO cL (tad (qb 1) (qb 2)) 8 9 72 ((bst b 0 u3).1 4, (bst b 0 u3).2 0) r2 0 a1 (gD_subT hD [1, 2] rfl rfl) h4) (cwV 3 hts gX2_placeMicrophone_X9_put rfl rfl rfl (by decide +kernel) ⟨Nat.le_of_ble_eq_true rfl, Nat.le_of_ble_eq_true rfl⟩) ⟨cP_blind, va_recv hK hPc (ci := 6) (q0 := 0) rfl rfl, cP_ok hPc hK hE⟩ rfl rfl hl.1 rfl (lv_room (Nat.le_of_ble_eq_true rfl)) dX2_placeMicrophone_15 ⟨Nat.zero_le _, Nat.zero_le _⟩) hP (gD_va hD rfl) hS [1, 2] rfl (fun _ => rfl) (fun u6 H locs hw hP hS => ?_)
  have hP : va_P (dC, dI) vwCl (bw qb cI (bst (bst b 0 u3) 0 u6)) H := hP
  have hf := lt_eq hw hf
  have hok := lt_ok hw hok
  refine lv_aload_n hx hb dX2_placeMicrophone_18 rfl (lv_at hl 1 rfl) ?_
  refine va_get (D := (dC, dI)) (ci := 1) (v := .ref (qb 1)) (C := RX2) (T := TX2) (N := 8) hx hb hts hin2 hown hK hP 0 rfl rfl 4 (by decide) fl29 (fun _ h9 => h9) rfl dX2_placeMicrophone_19 ?_
  refine lv_iload_n hx hb dX2_placeMicrophone_22 rfl (lv_at hl 0 rfl) ?_
  refine lv_iconst (v := 1) hx hb dX2_placeMicrophone_23 (by decide) ?_
  refine lv_iload_n hx hb dX2_placeMicrophone_24 rfl (lv_at hl 3 rfl) ?_
  obtain ⟨h7, hok⟩ := hok
  have hPc := hP.sub (ws' := tw (tad (qb 1) (qb 2)) cI 8 9 72 ((bst (bst b 0 u3) 0 u6).1 4, (bst (bst b 0 u3) 0 u6).2 0)) [1, 2] rfl
  refine gmu_v (va_runV (As := [.int r2, .int 1, .int a2]) (rest := []) ⟨hx, hb, hml, hown, hts⟩ (mX9_put l dC dI cI cB cO cL (tad (qb 1) (qb 2)) 8 9 72 ((bst (bst b 0 u3) 0 u6).1 4, (bst (bst b 0 u3) 0 u6).2 0) r2 1 a2 (gD_subT hD [1, 2] rfl rfl) h7) (cwV 3 hts gX2_placeMicrophone_X9_put rfl rfl rfl (by decide +kernel) ⟨Nat.le_of_ble_eq_true rfl, Nat.le_of_ble_eq_true rfl⟩) ⟨cP_blind, va_recv hK hPc (ci := 6) (q0 := 0) rfl rfl, cP_ok hPc hK hE⟩ rfl rfl hl.1 rfl (lv_room (Nat.le_of_ble_eq_true rfl)) dX2_placeMicrophone_25 ⟨Nat.zero_le _, Nat.zero_le _⟩) hP (gD_va hD rfl) hS [1, 2] rfl (fun _ => rfl) (fun u9 H locs hw hP hS => ?_)
  have hP : va_P (dC, dI) vwCl (bw qb cI (bst (bst (bst b 0 u3) 0 u6) 0 u9)) H := hP
  have hf := lt_eq hw hf
  have hok := lt_ok hw hok
  refine lv_aload_n hx hb dX2_placeMicrophone_28 rfl (lv_at hl 1 rfl) ?_
  refine va_get (D := (dC, dI)) (ci := 1) (v := .ref (qb 1)) (C := RX2) (T := TX2) (N := 8) hx hb hts hin2 hown hK hP 0 rfl rfl 4 (by decide) fl29 (fun _ h9 => h9) rfl dX2_placeMicrophone_29 ?_
  refine lv_iload_n hx hb dX2_placeMicrophone_32 rfl (lv_at hl 0 rfl) ?_
  refine lv_iconst (v := 2) hx hb dX2_placeMicrophone_33 (by decide) ?_
  refine lv_iconst (v := 0) hx hb dX2_placeMicrophone_34 (by decide) ?_
  obtain ⟨h10, hok⟩ := hok
  have hPc := hP.sub (ws' := tw (tad (qb 1) (qb 2)) cI 8 9 72 ((bst (bst (bst b 0 u3) 0 u6) 0 u9).1 4, (bst (bst (bst b 0 u3) 0 u6) 0 u9).2 0)) [1, 2] rfl
  refine gmu_v (va_runV (As := [.int r2, .int 2, .int 0]) (rest := []) ⟨hx, hb, hml, hown, hts⟩ (mX9_put l dC dI cI cB cO cL (tad (qb 1) (qb 2)) 8 9 72 ((bst (bst (bst b 0 u3) 0 u6) 0 u9).1 4, (bst (bst (bst b 0 u3) 0 u6) 0 u9).2 0) r2 2 0 (gD_subT hD [1, 2] rfl rfl) h10) (cwV 3 hts gX2_placeMicrophone_X9_put rfl rfl rfl (by decide +kernel) ⟨Nat.le_of_ble_eq_true rfl, Nat.le_of_ble_eq_true rfl⟩) ⟨cP_blind, va_recv hK hPc (ci := 6) (q0 := 0) rfl rfl, cP_ok hPc hK hE⟩ rfl rfl hl.1 rfl (lv_room (Nat.le_of_ble_eq_true rfl)) dX2_placeMicrophone_35 ⟨Nat.zero_le _, Nat.zero_le _⟩) hP (gD_va hD rfl) hS [1, 2] rfl (fun _ => rfl) (fun u12 H locs hw hP hS => ?_)
  have hP : va_P (dC, dI) vwCl (bw qb cI (bst (bst (bst (bst b 0 u3) 0 u6) 0 u9) 0 u12)) H := hP
  have hf := lt_eq hw hf
  have hok := lt_ok hw hok
  refine lv_aload_n hx hb dX2_placeMicrophone_38 rfl (lv_at hl 1 rfl) ?_
  refine va_get (D := (dC, dI)) (ci := 1) (v := .ref (qb 1)) (C := RX2) (T := TX2) (N := 8) hx hb hts hin2 hown hK hP 0 rfl rfl 4 (by decide) fl29 (fun _ h9 => h9) rfl dX2_placeMicrophone_39 ?_
  refine lv_iload_n hx hb dX2_placeMicrophone_42 rfl (lv_at hl 0 rfl) ?_
  refine lv_iconst (v := 3) hx hb dX2_placeMicrophone_43 (by decide) ?_
  refine lv_iconst (v := 0) hx hb dX2_placeMicrophone_44 (by decide) ?_
  have h13 : kX9_put 8 9 72 ((bst (bst (bst (bst b 0 u3) 0 u6) 0 u9) 0 u12).1 4, (bst (bst (bst (bst b 0 u3) 0 u6) 0 u9) 0 u12).2 0) r2 3 0 := hok
  have hPc := hP.sub (ws' := tw (tad (qb 1) (qb 2)) cI 8 9 72 ((bst (bst (bst (bst b 0 u3) 0 u6) 0 u9) 0 u12).1 4, (bst (bst (bst (bst b 0 u3) 0 u6) 0 u9) 0 u12).2 0)) [1, 2] rfl
  refine gmu_v (va_runV (As := [.int r2, .int 3, .int 0]) (rest := []) ⟨hx, hb, hml, hown, hts⟩ (mX9_put l dC dI cI cB cO cL (tad (qb 1) (qb 2)) 8 9 72 ((bst (bst (bst (bst b 0 u3) 0 u6) 0 u9) 0 u12).1 4, (bst (bst (bst (bst b 0 u3) 0 u6) 0 u9) 0 u12).2 0) r2 3 0 (gD_subT hD [1, 2] rfl rfl) h13) (cwV 3 hts gX2_placeMicrophone_X9_put rfl rfl rfl (by decide +kernel) ⟨Nat.le_of_ble_eq_true rfl, Nat.le_of_ble_eq_true rfl⟩) ⟨cP_blind, va_recv hK hPc (ci := 6) (q0 := 0) rfl rfl, cP_ok hPc hK hE⟩ rfl rfl hl.1 rfl (lv_room (Nat.le_of_ble_eq_true rfl)) dX2_placeMicrophone_45 ⟨Nat.zero_le _, Nat.zero_le _⟩) hP (gD_va hD rfl) hS [1, 2] rfl (fun _ => rfl) (fun u15 H locs hw hP hS => ?_)
  have hP : va_P (dC, dI) vwCl (bw qb cI (bst (bst (bst (bst (bst b 0 u3) 0 u6) 0 u9) 0 u12) 0 u15)) H := hP
  have hf := lt_eq hw hf
  refine lv_iload_n hx hb dX2_placeMicrophone_48 rfl (lv_at hl 0 rfl) ?_
  exact e_mi C0 (hf.symm.trans hF) hP hS dX2_placeMicrophone_49
noncomputable def pX2_refusalOfWall (b : BS) (a1 : Int32) (a2 : Int32) (a3 : Int32) : Int32 := if (pX11_isBetween a1 0 1) = true then (if (pX11_isBetween a2 (-1000) 3000) = true then (if (pX11_isBetween a3 0 100) = true then (if (pX9_isFull 4 3 12 (b.1 5, b.2 1)) = true then (3) else (0)) else (2)) else (2)) else (2)
abbrev rX2_refusalOfWall : Room := { frames := 1, cells := 0, slots := 0, locals := 22 }
set_option maxHeartbeats 4000000 in
set_option maxRecDepth 100000 in
theorem mX2_refusalOfWall (l : Launch) (dC : Nat → ClassId) (dI : Nat → Nat → Nat) (cI cB cO cL : ClassId) (qb : Nat → Nat) (b : BS) (a1 : Int32) (a2 : Int32) (a3 : Int32) : Met l yX2_refusalOfWall wsX2_refusalOfWall rX2_refusalOfWall (cP (dC, dI) (tYS cI cB cO cL) (bw qb cI b) [.ref (qb 0), .int a1, .int a2, .int a3]) (gRi (pX2_refusalOfWall b a1 a2 a3)) 0 0 (fun _ => False) := by
  refine cMet (cc := cX2_refusalOfWall) (maxL := 4) (ret := some .int) [(0, .ref (qb 0)), (1, .int a1), (2, .int a2), (3, .int a3)] (by decide) rfl rfl rfl ?_
  intro p e s mi below meth c C0 hK hE hP ls hl
  obtain ⟨hx, hb, hr, hml, hown, hts, hlocks⟩ := id C0
  have hown : s.vm.findClass RX2 = some mi.cls := hown
  obtain ⟨F, hF⟩ : ∃ F, F = pX2_refusalOfWall b a1 a2 a3 := ⟨_, rfl⟩
  have hf := hF
  have hin2 : ∀ w ∈ u_ws RX2 TX2 8, w ∈ wsX2_refusalOfWall := by decide +kernel
  have fl37 := hts (.fieldLink RX2 37 "ClickBench$Bench" "walls" "LClickBench$Table;") (by decide +kernel)
  refine lv_iload_n hx hb dX2_refusalOfWall_0 rfl (lv_at hl 1 rfl) ?_
  refine lv_iconst (v := 0) hx hb dX2_refusalOfWall_1 (by decide) ?_
  refine lv_iconst (v := 1) hx hb dX2_refusalOfWall_2 (by decide) ?_
  refine gro_i (va_runSN (As := [.int a1, .int 0, .int 1]) (rest := []) ⟨hx, hb, hml, hown, hts⟩ (mX11_isBetween l dC dI cI cB cO cL  a1 0 1  ) ⟨va_cnB 3 hts gX2_refusalOfWall_X11_isBetween_n65 rfl rfl rfl (eN.at hE (own := RX2) (idx := 65) (y := yX11_isBetween) (host := "ClickBench") (by decide +kernel)) (hts (.initialized RX11) (by decide +kernel)) (by decide +kernel) ⟨Nat.le_of_ble_eq_true rfl, Nat.le_of_ble_eq_true rfl⟩, hts (.static yX11_isBetween) (by decide +kernel), trivial⟩ ⟨cP_blind, cP_ok va_P_nil hK hE⟩ rfl rfl hl.1 rfl (lv_room (Nat.le_of_ble_eq_true rfl)) dX2_refusalOfWall_3 ⟨Nat.zero_le _, Nat.zero_le _⟩) ?_
  refine lv_if_eq (tgt := 32) hx hb dX2_refusalOfWall_6 (by decide) (fun c1 => ?_) (fun c1 => ?_)
  · have c1 := bz_f c1
    have hf := ie_eq c1 hf
    refine lv_iconst (v := 2) hx hb dX2_refusalOfWall_32 (by decide) ?_
    exact e_ri C0 (hf.symm.trans hF) dX2_refusalOfWall_33
  · have c1 := bz_t c1
    have hf := it_eq c1 hf
    refine lv_iload_n hx hb dX2_refusalOfWall_9 rfl (lv_at hl 2 rfl) ?_
    refine lv_sipush (v := (-1000)) hx hb dX2_refusalOfWall_10 (by decide) ?_
    refine lv_sipush (v := 3000) hx hb dX2_refusalOfWall_13 (by decide) ?_
    refine gro_i (va_runSN (As := [.int a2, .int (-1000), .int 3000]) (rest := []) ⟨hx, hb, hml, hown, hts⟩ (mX11_isBetween l dC dI cI cB cO cL  a2 (-1000) 3000  ) ⟨va_cnB 3 hts gX2_refusalOfWall_X11_isBetween_n65 rfl rfl rfl (eN.at hE (own := RX2) (idx := 65) (y := yX11_isBetween) (host := "ClickBench") (by decide +kernel)) (hts (.initialized RX11) (by decide +kernel)) (by decide +kernel) ⟨Nat.le_of_ble_eq_true rfl, Nat.le_of_ble_eq_true rfl⟩, hts (.static yX11_isBetween) (by decide +kernel), trivial⟩ ⟨cP_blind, cP_ok va_P_nil hK hE⟩ rfl rfl hl.1 rfl (lv_room (Nat.le_of_ble_eq_true rfl)) dX2_refusalOfWall_16 ⟨Nat.zero_le _, Nat.zero_le _⟩) ?_
    refine lv_if_eq (tgt := 32) hx hb dX2_refusalOfWall_19 (by decide) (fun c2 => ?_) (fun c2 => ?_)
    · have c2 := bz_f c2
      have hf := ie_eq c2 hf
      refine lv_iconst (v := 2) hx hb dX2_refusalOfWall_32 (by decide) ?_
      exact e_ri C0 (hf.symm.trans hF) dX2_refusalOfWall_33
    · have c2 := bz_t c2
      have hf := it_eq c2 hf
      refine lv_iload_n hx hb dX2_refusalOfWall_22 rfl (lv_at hl 3 rfl) ?_
      refine lv_iconst (v := 0) hx hb dX2_refusalOfWall_23 (by decide) ?_
      refine lv_bipush (v := 100) hx hb dX2_refusalOfWall_24 (by decide) ?_
      refine gro_i (va_runSN (As := [.int a3, .int 0, .int 100]) (rest := []) ⟨hx, hb, hml, hown, hts⟩ (mX11_isBetween l dC dI cI cB cO cL  a3 0 100  ) ⟨va_cnB 3 hts gX2_refusalOfWall_X11_isBetween_n65 rfl rfl rfl (eN.at hE (own := RX2) (idx := 65) (y := yX11_isBetween) (host := "ClickBench") (by decide +kernel)) (hts (.initialized RX11) (by decide +kernel)) (by decide +kernel) ⟨Nat.le_of_ble_eq_true rfl, Nat.le_of_ble_eq_true rfl⟩, hts (.static yX11_isBetween) (by decide +kernel), trivial⟩ ⟨cP_blind, cP_ok va_P_nil hK hE⟩ rfl rfl hl.1 rfl (lv_room (Nat.le_of_ble_eq_true rfl)) dX2_refusalOfWall_26 ⟨Nat.zero_le _, Nat.zero_le _⟩) ?_
      refine lv_if_ne (tgt := 34) hx hb dX2_refusalOfWall_29 (by decide) (fun c3 => ?_) (fun c3 => ?_)
      · have c3 := bz_t c3
        have hf := it_eq c3 hf
        refine lv_aload_n hx hb dX2_refusalOfWall_34 rfl (lv_at hl 0 rfl) ?_
        refine va_get (D := (dC, dI)) (ci := 1) (v := .ref (qb 3)) (C := RX2) (T := TX2) (N := 8) hx hb hts hin2 hown hK hP 0 rfl rfl 5 (by decide) fl37 (fun _ h9 => h9) rfl dX2_refusalOfWall_35 ?_
        have hPc := hP.sub (ws' := tw (tad (qb 3) (qb 4)) cI 4 3 12 (b.1 5, b.2 1)) [3, 4] rfl
        refine gro_i (va_runV (As := []) (rest := []) ⟨hx, hb, hml, hown, hts⟩ (mX9_isFull l dC dI cI cB cO cL (tad (qb 3) (qb 4)) 4 3 12 (b.1 5, b.2 1)  ) (cwV 0 hts gX2_refusalOfWall_X9_isFull rfl rfl rfl (by decide +kernel) ⟨Nat.le_of_ble_eq_true rfl, Nat.le_of_ble_eq_true rfl⟩) ⟨cP_blind, va_recv hK hPc (ci := 6) (q0 := 0) rfl rfl, cP_ok hPc hK hE⟩ rfl rfl hl.1 rfl (lv_room (Nat.le_of_ble_eq_true rfl)) dX2_refusalOfWall_38 ⟨Nat.zero_le _, Nat.zero_le _⟩) ?_
        refine lv_if_eq (tgt := 48) hx hb dX2_refusalOfWall_41 (by decide) (fun c4 => ?_) (fun c4 => ?_)
        · have c4 := bz_f c4
          have hf := ie_eq c4 hf
          refine lv_iconst (v := 0) hx hb dX2_refusalOfWall_48 (by decide) ?_
          exact e_ri C0 (hf.symm.trans hF) dX2_refusalOfWall_49
        · have c4 := bz_t c4
          have hf := it_eq c4 hf
          refine lv_iconst (v := 3) hx hb dX2_refusalOfWall_44 (by decide) ?_
          refine lv_goto (tgt := 49) hx hb dX2_refusalOfWall_45 (by decide) ?_
          exact e_ri C0 (hf.symm.trans hF) dX2_refusalOfWall_49
      · have c3 := bz_f c3
        have hf := ie_eq c3 hf
        refine lv_iconst (v := 2) hx hb dX2_refusalOfWall_32 (by decide) ?_
        exact e_ri C0 (hf.symm.trans hF) dX2_refusalOfWall_33
noncomputable def pX2_placeWall (b : BS) (a1 : Int32) (a2 : Int32) (a3 : Int32) : Int32 × BS := bd (pX9_addRow 4 3 12 (b.1 5, b.2 1)) fun (r2 : Int32) (u3 : TS) => lt (pX9_put 4 3 12 ((bst b 1 u3).1 5, (bst b 1 u3).2 1) r2 0 a1) fun (u6 : TS) => lt (pX9_put 4 3 12 ((bst (bst b 1 u3) 1 u6).1 5, (bst (bst b 1 u3) 1 u6).2 1) r2 1 a2) fun (u9 : TS) => lt (pX9_put 4 3 12 ((bst (bst (bst b 1 u3) 1 u6) 1 u9).1 5, (bst (bst (bst b 1 u3) 1 u6) 1 u9).2 1) r2 2 a3) fun (u12 : TS) => (r2, bst (bst (bst (bst b 1 u3) 1 u6) 1 u9) 1 u12)
def kX2_placeWall (b : BS) (a1 : Int32) (a2 : Int32) (a3 : Int32) : Prop := (kX9_addRow 4 3 12 (b.1 5, b.2 1)) ∧ (bd (pX9_addRow 4 3 12 (b.1 5, b.2 1)) fun (r2 : Int32) (u3 : TS) => (kX9_put 4 3 12 ((bst b 1 u3).1 5, (bst b 1 u3).2 1) r2 0 a1) ∧ (lt (pX9_put 4 3 12 ((bst b 1 u3).1 5, (bst b 1 u3).2 1) r2 0 a1) fun (u6 : TS) => (kX9_put 4 3 12 ((bst (bst b 1 u3) 1 u6).1 5, (bst (bst b 1 u3) 1 u6).2 1) r2 1 a2) ∧ (lt (pX9_put 4 3 12 ((bst (bst b 1 u3) 1 u6).1 5, (bst (bst b 1 u3) 1 u6).2 1) r2 1 a2) fun (u9 : TS) => kX9_put 4 3 12 ((bst (bst (bst b 1 u3) 1 u6) 1 u9).1 5, (bst (bst (bst b 1 u3) 1 u6) 1 u9).2 1) r2 2 a3)))
abbrev rX2_placeWall : Room := { frames := 2, cells := 0, slots := 0, locals := 45 }
set_option maxHeartbeats 4000000 in
set_option maxRecDepth 100000 in
theorem mX2_placeWall (l : Launch) (dC : Nat → ClassId) (dI : Nat → Nat → Nat) (cI cB cO cL : ClassId) (qb : Nat → Nat) (b : BS) (a1 : Int32) (a2 : Int32) (a3 : Int32) (hI : gD (fun _ => True) (bAd qb)) (hok : kX2_placeWall b a1 a2 a3) : Met l yX2_placeWall wsX2_placeWall rX2_placeWall (cP (dC, dI) (tYS cI cB cO cL) (bw qb cI b) [.ref (qb 0), .int a1, .int a2, .int a3]) (gQi (dC, dI) (fun z9 => bw qb cI z9) (wA (bw qb cI b)) (pX2_placeWall b a1 a2 a3)) 0 0 (wA (bw qb cI b)) := by
  refine cMet (cc := cX2_placeWall) (maxL := 5) (ret := some .int) [(0, .ref (qb 0)), (1, .int a1), (2, .int a2), (3, .int a3)] (by decide) rfl rfl rfl ?_
  intro p e s mi below meth c C0 hK hE hP ls hl
  obtain ⟨hx, hb, hr, hml, hown, hts, hlocks⟩ := id C0
  have hown : s.vm.findClass RX2 = some mi.cls := hown
  have hS : va_S (wA (bw qb cI b)) s.heap s.heap [] := va_S.rf
  have hD : gD (wA (bw qb cI b)) (bAd qb) := gD_wA (ws := bw qb cI b) hI
  have hP : va_P (dC, dI) vwCl (bw qb cI b) s.heap := hP
  obtain ⟨F, hF⟩ : ∃ F, F = pX2_placeWall b a1 a2 a3 := ⟨_, rfl⟩
  have hf := hF
  have hin2 : ∀ w ∈ u_ws RX2 TX2 8, w ∈ wsX2_placeWall := by decide +kernel
  have fl37 := hts (.fieldLink RX2 37 "ClickBench$Bench" "walls" "LClickBench$Table;") (by decide +kernel)
  refine lv_aload_n hx hb dX2_placeWall_0 rfl (lv_at hl 0 rfl) ?_
  refine va_get (D := (dC, dI)) (ci := 1) (v := .ref (qb 3)) (C := RX2) (T := TX2) (N := 8) hx hb hts hin2 hown hK hP 0 rfl rfl 5 (by decide) fl37 (fun _ h9 => h9) rfl dX2_placeWall_1 ?_
  obtain ⟨h1, hok⟩ := hok
  have hPc := hP.sub (ws' := tw (tad (qb 3) (qb 4)) cI 4 3 12 (b.1 5, b.2 1)) [3, 4] rfl
  refine gmu_i (va_runV (As := []) (rest := []) ⟨hx, hb, hml, hown, hts⟩ (mX9_addRow l dC dI cI cB cO cL (tad (qb 3) (qb 4)) 4 3 12 (b.1 5, b.2 1) (gD_subT hD [3, 4] rfl rfl) h1) (cwV 0 hts gX2_placeWall_X9_addRow rfl rfl rfl (by decide +kernel) ⟨Nat.le_of_ble_eq_true rfl, Nat.le_of_ble_eq_true rfl⟩) ⟨cP_blind, va_recv hK hPc (ci := 6) (q0 := 0) rfl rfl, cP_ok hPc hK hE⟩ rfl rfl hl.1 rfl (lv_room (Nat.le_of_ble_eq_true rfl)) dX2_placeWall_4 ⟨Nat.zero_le _, Nat.zero_le _⟩) hP (gD_va hD rfl) hS [3, 4] rfl (fun _ => rfl) (fun r2 u3 H locs hw hP hS => ?_)
  have hP : va_P (dC, dI) vwCl (bw qb cI (bst b 1 u3)) H := hP
  have hf := bd_eq hw hf
  have hok := bd_ok hw hok
  refine lv_istore (lv' := [(4, .int r2), (0, .ref (qb 0)), (1, .int a1), (2, .int a2), (3, .int a3)]) hx hb dX2_placeWall_7 hl (by decide) rfl (fun ls hl => ?_)
  refine lv_aload_n hx hb dX2_placeWall_9 rfl (lv_at hl 1 rfl) ?_
  refine va_get (D := (dC, dI)) (ci := 1) (v := .ref (qb 3)) (C := RX2) (T := TX2) (N := 8) hx hb hts hin2 hown hK hP 0 rfl rfl 5 (by decide) fl37 (fun _ h9 => h9) rfl dX2_placeWall_10 ?_
  refine lv_iload hx hb dX2_placeWall_13 (lv_at hl 0 rfl) ?_
  refine lv_iconst (v := 0) hx hb dX2_placeWall_15 (by decide) ?_
  refine lv_iload_n hx hb dX2_placeWall_16 rfl (lv_at hl 2 rfl) ?_
  obtain ⟨h4, hok⟩ := hok
  have hPc := hP.sub (ws' := tw (tad (qb 3) (qb 4)) cI 4 3 12 ((bst b 1 u3).1 5, (bst b 1 u3).2 1)) [3, 4] rfl
  refine gmu_v (va_runV (As := [.int r2, .int 0, .int a1]) (rest := []) ⟨hx, hb, hml, hown, hts⟩ (mX9_put l dC dI cI cB cO cL (tad (qb 3) (qb 4)) 4 3 12 ((bst b 1 u3).1 5, (bst b 1 u3).2 1) r2 0 a1 (gD_subT hD [3, 4] rfl rfl) h4) (cwV 3 hts gX2_placeWall_X9_put rfl rfl rfl (by decide +kernel) ⟨Nat.le_of_ble_eq_true rfl, Nat.le_of_ble_eq_true rfl⟩) ⟨cP_blind, va_recv hK hPc (ci := 6) (q0 := 0) rfl rfl, cP_ok hPc hK hE⟩ rfl rfl hl.1 rfl (lv_room (Nat.le_of_ble_eq_true rfl)) dX2_placeWall_17 ⟨Nat.zero_le _, Nat.zero_le _⟩) hP (gD_va hD rfl) hS [3, 4] rfl (fun _ => rfl) (fun u6 H locs hw hP hS => ?_)
  have hP : va_P (dC, dI) vwCl (bw qb cI (bst (bst b 1 u3) 1 u6)) H := hP
  have hf := lt_eq hw hf
  have hok := lt_ok hw hok
  refine lv_aload_n hx hb dX2_placeWall_20 rfl (lv_at hl 1 rfl) ?_
  refine va_get (D := (dC, dI)) (ci := 1) (v := .ref (qb 3)) (C := RX2) (T := TX2) (N := 8) hx hb hts hin2 hown hK hP 0 rfl rfl 5 (by decide) fl37 (fun _ h9 => h9) rfl dX2_placeWall_21 ?_
  refine lv_iload hx hb dX2_placeWall_24 (lv_at hl 0 rfl) ?_
  refine lv_iconst (v := 1) hx hb dX2_placeWall_26 (by decide) ?_
  refine lv_iload_n hx hb dX2_placeWall_27 rfl (lv_at hl 3 rfl) ?_
  obtain ⟨h7, hok⟩ := hok
  have hPc := hP.sub (ws' := tw (tad (qb 3) (qb 4)) cI 4 3 12 ((bst (bst b 1 u3) 1 u6).1 5, (bst (bst b 1 u3) 1 u6).2 1)) [3, 4] rfl
  refine gmu_v (va_runV (As := [.int r2, .int 1, .int a2]) (rest := []) ⟨hx, hb, hml, hown, hts⟩ (mX9_put l dC dI cI cB cO cL (tad (qb 3) (qb 4)) 4 3 12 ((bst (bst b 1 u3) 1 u6).1 5, (bst (bst b 1 u3) 1 u6).2 1) r2 1 a2 (gD_subT hD [3, 4] rfl rfl) h7) (cwV 3 hts gX2_placeWall_X9_put rfl rfl rfl (by decide +kernel) ⟨Nat.le_of_ble_eq_true rfl, Nat.le_of_ble_eq_true rfl⟩) ⟨cP_blind, va_recv hK hPc (ci := 6) (q0 := 0) rfl rfl, cP_ok hPc hK hE⟩ rfl rfl hl.1 rfl (lv_room (Nat.le_of_ble_eq_true rfl)) dX2_placeWall_28 ⟨Nat.zero_le _, Nat.zero_le _⟩) hP (gD_va hD rfl) hS [3, 4] rfl (fun _ => rfl) (fun u9 H locs hw hP hS => ?_)
  have hP : va_P (dC, dI) vwCl (bw qb cI (bst (bst (bst b 1 u3) 1 u6) 1 u9)) H := hP
  have hf := lt_eq hw hf
  have hok := lt_ok hw hok
  refine lv_aload_n hx hb dX2_placeWall_31 rfl (lv_at hl 1 rfl) ?_
  refine va_get (D := (dC, dI)) (ci := 1) (v := .ref (qb 3)) (C := RX2) (T := TX2) (N := 8) hx hb hts hin2 hown hK hP 0 rfl rfl 5 (by decide) fl37 (fun _ h9 => h9) rfl dX2_placeWall_32 ?_
  refine lv_iload hx hb dX2_placeWall_35 (lv_at hl 0 rfl) ?_
  refine lv_iconst (v := 2) hx hb dX2_placeWall_37 (by decide) ?_
  refine lv_iload_n hx hb dX2_placeWall_38 rfl (lv_at hl 4 rfl) ?_
  have h10 : kX9_put 4 3 12 ((bst (bst (bst b 1 u3) 1 u6) 1 u9).1 5, (bst (bst (bst b 1 u3) 1 u6) 1 u9).2 1) r2 2 a3 := hok
  have hPc := hP.sub (ws' := tw (tad (qb 3) (qb 4)) cI 4 3 12 ((bst (bst (bst b 1 u3) 1 u6) 1 u9).1 5, (bst (bst (bst b 1 u3) 1 u6) 1 u9).2 1)) [3, 4] rfl
  refine gmu_v (va_runV (As := [.int r2, .int 2, .int a3]) (rest := []) ⟨hx, hb, hml, hown, hts⟩ (mX9_put l dC dI cI cB cO cL (tad (qb 3) (qb 4)) 4 3 12 ((bst (bst (bst b 1 u3) 1 u6) 1 u9).1 5, (bst (bst (bst b 1 u3) 1 u6) 1 u9).2 1) r2 2 a3 (gD_subT hD [3, 4] rfl rfl) h10) (cwV 3 hts gX2_placeWall_X9_put rfl rfl rfl (by decide +kernel) ⟨Nat.le_of_ble_eq_true rfl, Nat.le_of_ble_eq_true rfl⟩) ⟨cP_blind, va_recv hK hPc (ci := 6) (q0 := 0) rfl rfl, cP_ok hPc hK hE⟩ rfl rfl hl.1 rfl (lv_room (Nat.le_of_ble_eq_true rfl)) dX2_placeWall_39 ⟨Nat.zero_le _, Nat.zero_le _⟩) hP (gD_va hD rfl) hS [3, 4] rfl (fun _ => rfl) (fun u12 H locs hw hP hS => ?_)
  have hP : va_P (dC, dI) vwCl (bw qb cI (bst (bst (bst (bst b 1 u3) 1 u6) 1 u9) 1 u12)) H := hP
  have hf := lt_eq hw hf
  refine lv_iload hx hb dX2_placeWall_42 (lv_at hl 0 rfl) ?_
  exact e_mi C0 (hf.symm.trans hF) hP hS dX2_placeWall_44
noncomputable def pX2_refusalOfScreen (b : BS) (a1 : Int32) (a2 : Int32) (a3 : Int32) (a4 : Int32) : Int32 := if (pX11_isBetween a1 0 1) = true then (if (pX11_isBetween a2 (-1000) 3000) = true then (if (pX11_isBetween a3 (-1000) 3000) = true then (if (pX11_isBetween a4 (-1000) 3000) = true then (if a3 < a4 then (if (pX9_isFull 4 4 16 (b.1 6, b.2 2)) = true then (3) else (0)) else (2)) else (2)) else (2)) else (2)) else (2)
abbrev rX2_refusalOfScreen : Room := { frames := 1, cells := 0, slots := 0, locals := 22 }
set_option maxHeartbeats 4000000 in
set_option maxRecDepth 100000 in
theorem mX2_refusalOfScreen (l : Launch) (dC : Nat → ClassId) (dI : Nat → Nat → Nat) (cI cB cO cL : ClassId) (qb : Nat → Nat) (b : BS) (a1 : Int32) (a2 : Int32) (a3 : Int32) (a4 : Int32) : Met l yX2_refusalOfScreen wsX2_refusalOfScreen rX2_refusalOfScreen (cP (dC, dI) (tYS cI cB cO cL) (bw qb cI b) [.ref (qb 0), .int a1, .int a2, .int a3, .int a4]) (gRi (pX2_refusalOfScreen b a1 a2 a3 a4)) 0 0 (fun _ => False) := by
  refine cMet (cc := cX2_refusalOfScreen) (maxL := 5) (ret := some .int) [(0, .ref (qb 0)), (1, .int a1), (2, .int a2), (3, .int a3), (4, .int a4)] (by decide) rfl rfl rfl ?_
  intro p e s mi below meth c C0 hK hE hP ls hl
  obtain ⟨hx, hb, hr, hml, hown, hts, hlocks⟩ := id C0
  have hown : s.vm.findClass RX2 = some mi.cls := hown
  obtain ⟨F, hF⟩ : ∃ F, F = pX2_refusalOfScreen b a1 a2 a3 a4 := ⟨_, rfl⟩
  have hf := hF
  have hin2 : ∀ w ∈ u_ws RX2 TX2 8, w ∈ wsX2_refusalOfScreen := by decide +kernel
  have fl40 := hts (.fieldLink RX2 40 "ClickBench$Bench" "screens" "LClickBench$Table;") (by decide +kernel)
  refine lv_iload_n hx hb dX2_refusalOfScreen_0 rfl (lv_at hl 1 rfl) ?_
  refine lv_iconst (v := 0) hx hb dX2_refusalOfScreen_1 (by decide) ?_
  refine lv_iconst (v := 1) hx hb dX2_refusalOfScreen_2 (by decide) ?_
  refine gro_i (va_runSN (As := [.int a1, .int 0, .int 1]) (rest := []) ⟨hx, hb, hml, hown, hts⟩ (mX11_isBetween l dC dI cI cB cO cL  a1 0 1  ) ⟨va_cnB 3 hts gX2_refusalOfScreen_X11_isBetween_n65 rfl rfl rfl (eN.at hE (own := RX2) (idx := 65) (y := yX11_isBetween) (host := "ClickBench") (by decide +kernel)) (hts (.initialized RX11) (by decide +kernel)) (by decide +kernel) ⟨Nat.le_of_ble_eq_true rfl, Nat.le_of_ble_eq_true rfl⟩, hts (.static yX11_isBetween) (by decide +kernel), trivial⟩ ⟨cP_blind, cP_ok va_P_nil hK hE⟩ rfl rfl hl.1 rfl (lv_room (Nat.le_of_ble_eq_true rfl)) dX2_refusalOfScreen_3 ⟨Nat.zero_le _, Nat.zero_le _⟩) ?_
  refine lv_if_eq (tgt := 22) hx hb dX2_refusalOfScreen_6 (by decide) (fun c1 => ?_) (fun c1 => ?_)
  · have c1 := bz_f c1
    have hf := ie_eq c1 hf
    refine lv_iconst (v := 2) hx hb dX2_refusalOfScreen_22 (by decide) ?_
    exact e_ri C0 (hf.symm.trans hF) dX2_refusalOfScreen_23
  · have c1 := bz_t c1
    have hf := it_eq c1 hf
    refine lv_iload_n hx hb dX2_refusalOfScreen_9 rfl (lv_at hl 2 rfl) ?_
    refine lv_sipush (v := (-1000)) hx hb dX2_refusalOfScreen_10 (by decide) ?_
    refine lv_sipush (v := 3000) hx hb dX2_refusalOfScreen_13 (by decide) ?_
    refine gro_i (va_runSN (As := [.int a2, .int (-1000), .int 3000]) (rest := []) ⟨hx, hb, hml, hown, hts⟩ (mX11_isBetween l dC dI cI cB cO cL  a2 (-1000) 3000  ) ⟨va_cnB 3 hts gX2_refusalOfScreen_X11_isBetween_n65 rfl rfl rfl (eN.at hE (own := RX2) (idx := 65) (y := yX11_isBetween) (host := "ClickBench") (by decide +kernel)) (hts (.initialized RX11) (by decide +kernel)) (by decide +kernel) ⟨Nat.le_of_ble_eq_true rfl, Nat.le_of_ble_eq_true rfl⟩, hts (.static yX11_isBetween) (by decide +kernel), trivial⟩ ⟨cP_blind, cP_ok va_P_nil hK hE⟩ rfl rfl hl.1 rfl (lv_room (Nat.le_of_ble_eq_true rfl)) dX2_refusalOfScreen_16 ⟨Nat.zero_le _, Nat.zero_le _⟩) ?_
    refine lv_if_ne (tgt := 24) hx hb dX2_refusalOfScreen_19 (by decide) (fun c2 => ?_) (fun c2 => ?_)
    · have c2 := bz_t c2
      have hf := it_eq c2 hf
      refine lv_iload_n hx hb dX2_refusalOfScreen_24 rfl (lv_at hl 3 rfl) ?_
      refine lv_sipush (v := (-1000)) hx hb dX2_refusalOfScreen_25 (by decide) ?_
      refine lv_sipush (v := 3000) hx hb dX2_refusalOfScreen_28 (by decide) ?_
      refine gro_i (va_runSN (As := [.int a3, .int (-1000), .int 3000]) (rest := []) ⟨hx, hb, hml, hown, hts⟩ (mX11_isBetween l dC dI cI cB cO cL  a3 (-1000) 3000  ) ⟨va_cnB 3 hts gX2_refusalOfScreen_X11_isBetween_n65 rfl rfl rfl (eN.at hE (own := RX2) (idx := 65) (y := yX11_isBetween) (host := "ClickBench") (by decide +kernel)) (hts (.initialized RX11) (by decide +kernel)) (by decide +kernel) ⟨Nat.le_of_ble_eq_true rfl, Nat.le_of_ble_eq_true rfl⟩, hts (.static yX11_isBetween) (by decide +kernel), trivial⟩ ⟨cP_blind, cP_ok va_P_nil hK hE⟩ rfl rfl hl.1 rfl (lv_room (Nat.le_of_ble_eq_true rfl)) dX2_refusalOfScreen_31 ⟨Nat.zero_le _, Nat.zero_le _⟩) ?_
      refine lv_if_eq (tgt := 57) hx hb dX2_refusalOfScreen_34 (by decide) (fun c3 => ?_) (fun c3 => ?_)
      · have c3 := bz_f c3
        have hf := ie_eq c3 hf
        refine lv_iconst (v := 2) hx hb dX2_refusalOfScreen_57 (by decide) ?_
        exact e_ri C0 (hf.symm.trans hF) dX2_refusalOfScreen_58
      · have c3 := bz_t c3
        have hf := it_eq c3 hf
        refine lv_iload hx hb dX2_refusalOfScreen_37 (lv_at hl 4 rfl) ?_
        refine lv_sipush (v := (-1000)) hx hb dX2_refusalOfScreen_39 (by decide) ?_
        refine lv_sipush (v := 3000) hx hb dX2_refusalOfScreen_42 (by decide) ?_
        refine gro_i (va_runSN (As := [.int a4, .int (-1000), .int 3000]) (rest := []) ⟨hx, hb, hml, hown, hts⟩ (mX11_isBetween l dC dI cI cB cO cL  a4 (-1000) 3000  ) ⟨va_cnB 3 hts gX2_refusalOfScreen_X11_isBetween_n65 rfl rfl rfl (eN.at hE (own := RX2) (idx := 65) (y := yX11_isBetween) (host := "ClickBench") (by decide +kernel)) (hts (.initialized RX11) (by decide +kernel)) (by decide +kernel) ⟨Nat.le_of_ble_eq_true rfl, Nat.le_of_ble_eq_true rfl⟩, hts (.static yX11_isBetween) (by decide +kernel), trivial⟩ ⟨cP_blind, cP_ok va_P_nil hK hE⟩ rfl rfl hl.1 rfl (lv_room (Nat.le_of_ble_eq_true rfl)) dX2_refusalOfScreen_45 ⟨Nat.zero_le _, Nat.zero_le _⟩) ?_
        refine lv_if_eq (tgt := 57) hx hb dX2_refusalOfScreen_48 (by decide) (fun c4 => ?_) (fun c4 => ?_)
        · have c4 := bz_f c4
          have hf := ie_eq c4 hf
          refine lv_iconst (v := 2) hx hb dX2_refusalOfScreen_57 (by decide) ?_
          exact e_ri C0 (hf.symm.trans hF) dX2_refusalOfScreen_58
        · have c4 := bz_t c4
          have hf := it_eq c4 hf
          refine lv_iload_n hx hb dX2_refusalOfScreen_51 rfl (lv_at hl 3 rfl) ?_
          refine lv_iload hx hb dX2_refusalOfScreen_52 (lv_at hl 4 rfl) ?_
          refine lv_icmp_lt (tgt := 59) hx hb dX2_refusalOfScreen_54 (by decide) (fun c5 => ?_) (fun c5 => ?_)
          · have hf := it_eq c5 hf
            refine lv_aload_n hx hb dX2_refusalOfScreen_59 rfl (lv_at hl 0 rfl) ?_
            refine va_get (D := (dC, dI)) (ci := 1) (v := .ref (qb 5)) (C := RX2) (T := TX2) (N := 8) hx hb hts hin2 hown hK hP 0 rfl rfl 6 (by decide) fl40 (fun _ h9 => h9) rfl dX2_refusalOfScreen_60 ?_
            have hPc := hP.sub (ws' := tw (tad (qb 5) (qb 6)) cI 4 4 16 (b.1 6, b.2 2)) [5, 6] rfl
            refine gro_i (va_runV (As := []) (rest := []) ⟨hx, hb, hml, hown, hts⟩ (mX9_isFull l dC dI cI cB cO cL (tad (qb 5) (qb 6)) 4 4 16 (b.1 6, b.2 2)  ) (cwV 0 hts gX2_refusalOfScreen_X9_isFull rfl rfl rfl (by decide +kernel) ⟨Nat.le_of_ble_eq_true rfl, Nat.le_of_ble_eq_true rfl⟩) ⟨cP_blind, va_recv hK hPc (ci := 6) (q0 := 0) rfl rfl, cP_ok hPc hK hE⟩ rfl rfl hl.1 rfl (lv_room (Nat.le_of_ble_eq_true rfl)) dX2_refusalOfScreen_63 ⟨Nat.zero_le _, Nat.zero_le _⟩) ?_
            refine lv_if_eq (tgt := 73) hx hb dX2_refusalOfScreen_66 (by decide) (fun c6 => ?_) (fun c6 => ?_)
            · have c6 := bz_f c6
              have hf := ie_eq c6 hf
              refine lv_iconst (v := 0) hx hb dX2_refusalOfScreen_73 (by decide) ?_
              exact e_ri C0 (hf.symm.trans hF) dX2_refusalOfScreen_74
            · have c6 := bz_t c6
              have hf := it_eq c6 hf
              refine lv_iconst (v := 3) hx hb dX2_refusalOfScreen_69 (by decide) ?_
              refine lv_goto (tgt := 74) hx hb dX2_refusalOfScreen_70 (by decide) ?_
              exact e_ri C0 (hf.symm.trans hF) dX2_refusalOfScreen_74
          · have hf := ie_eq c5 hf
            refine lv_iconst (v := 2) hx hb dX2_refusalOfScreen_57 (by decide) ?_
            exact e_ri C0 (hf.symm.trans hF) dX2_refusalOfScreen_58
    · have c2 := bz_f c2
      have hf := ie_eq c2 hf
      refine lv_iconst (v := 2) hx hb dX2_refusalOfScreen_22 (by decide) ?_
      exact e_ri C0 (hf.symm.trans hF) dX2_refusalOfScreen_23
