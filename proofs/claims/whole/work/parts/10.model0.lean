abbrev mAd (q : Nat → Nat) : List Nat := [q 0, q 1, q 2, q 3, q 4, q 5, q 6, q 7, q 8, q 9, q 10, q 11, q 12, q 13]
abbrev mw (q : Nat → Nat) (cI : ClassId) (m : MS) : va_W := [(q 0, .inr (9, [.ref (q 1), .ref (q 2), .ref (q 3), .int (m.1 0), .ref (q 4), .int (m.1 1), .int (m.1 2), .int (m.1 3), .ref (q 5), .ref (q 6), .ref (q 7), .ref (q 8), .ref (q 9), .int (m.1 4), .int (m.1 5), .ref (q 10), .ref (q 11), .ref (q 12), .int (m.1 6), .int (m.1 7), .long (m.2.1 0), .ref (q 13), .long (m.2.1 1)])), (q 1, .inl (cI, 122, .inl (m.2.2 0))), (q 2, .inl (cI, 488, .inl (m.2.2 1))), (q 3, .inl (cI, 122, .inl (m.2.2 2))), (q 4, .inl (cI, 150, .inl (m.2.2 3))), (q 5, .inl (cI, 17, .inl (m.2.2 4))), (q 6, .inl (cI, 17, .inl (m.2.2 5))), (q 7, .inl (cI, 17, .inl (m.2.2 6))), (q 8, .inl (cI, 17, .inl (m.2.2 7))), (q 9, .inl (cI, 17, .inl (m.2.2 8))), (q 10, .inl (cI, 400, .inl (m.2.2 9))), (q 11, .inl (cI, 400, .inl (m.2.2 10))), (q 12, .inl (cI, 8, .inl (m.2.2 11))), (q 13, .inl (cI, 4, .inl (m.2.2 12)))]
noncomputable def pX12_thrown (m : MS) : Int32 := m.1 3
abbrev rX12_thrown : Room := { frames := 0, cells := 0, slots := 0, locals := 0 }
set_option maxHeartbeats 4000000 in
set_option maxRecDepth 100000 in
theorem mX12_thrown (l : Launch) (dC : Nat → ClassId) (dI : Nat → Nat → Nat) (cI cB cO cL : ClassId) (q : Nat → Nat) (m : MS) : Met l yX12_thrown wsX12_thrown rX12_thrown (gP (dC, dI) (tYS cI cB cO cL) (mw q cI m) [.ref (q 0)]) (gRi (pX12_thrown m)) 0 0 (fun _ => False) := by
  refine gMet (cc := cX12_thrown) (maxL := 1) (ret := some .int) [(0, .ref (q 0))] (by decide) rfl rfl rfl ?_
  intro p e s mi below meth c C0 hK hP ls hl
  obtain ⟨hx, hb, hr, hml, hown, hts, hlocks⟩ := id C0
  have hown : s.vm.findClass RX12 = some mi.cls := hown
  obtain ⟨F, hF⟩ : ∃ F, F = pX12_thrown m := ⟨_, rfl⟩
  have hf := hF
  have hin12 : ∀ w ∈ u_ws RX12 TX12 23, w ∈ wsX12_thrown := by decide +kernel
  have fl49 := hts (.fieldLink RX12 49 "ClickBenchModel" "thrown" "I") (by decide +kernel)
  refine lv_aload_n hx hb dX12_thrown_0 rfl (lv_at hl 0 rfl) ?_
  refine va_get (D := (dC, dI)) (ci := 9) (v := .int (m.1 3)) (C := RX12) (T := TX12) (N := 23) hx hb hts hin12 hown hK hP 0 rfl rfl 7 (by decide) fl49 (fun _ h9 => h9) rfl dX12_thrown_1 ?_
  exact e_ri C0 (hf.symm.trans hF) dX12_thrown_4
noncomputable def pX12_in (a1 : Int32) (a2 : Int32) (a3 : Int32) : Bool := if a1 < a2 then (false) else (if a3 < a1 then (false) else (true))
abbrev rX12_in : Room := { frames := 0, cells := 0, slots := 0, locals := 0 }
set_option maxHeartbeats 4000000 in
set_option maxRecDepth 100000 in
theorem mX12_in (l : Launch) (dC : Nat → ClassId) (dI : Nat → Nat → Nat) (cI cB cO cL : ClassId)  (a1 : Int32) (a2 : Int32) (a3 : Int32) : Met l yX12_in wsX12_in rX12_in (gP (dC, dI) (tYS cI cB cO cL) ([]) [.int a1, .int a2, .int a3]) (gRz (pX12_in a1 a2 a3)) 0 0 (fun _ => False) := by
  refine gMet (cc := cX12_in) (maxL := 3) (ret := some .boolean) [(0, .int a1), (1, .int a2), (2, .int a3)] (by decide) rfl rfl rfl ?_
  intro p e s mi below meth c C0 hK hP ls hl
  obtain ⟨hx, hb, hr, hml, hown, hts, hlocks⟩ := id C0
  have hown : s.vm.findClass RX12 = some mi.cls := hown
  obtain ⟨F, hF⟩ : ∃ F, F = pX12_in a1 a2 a3 := ⟨_, rfl⟩
  have hf := hF
  refine lv_iload_n hx hb dX12_in_0 rfl (lv_at hl 0 rfl) ?_
  refine lv_iload_n hx hb dX12_in_1 rfl (lv_at hl 1 rfl) ?_
  refine lv_icmp_lt (tgt := 14) hx hb dX12_in_2 (by decide) (fun c1 => ?_) (fun c1 => ?_)
  · have hf := it_eq c1 hf
    refine lv_iconst (v := 0) hx hb dX12_in_14 (by decide) ?_
    exact e_rz C0 (b := false) rfl (hf.symm.trans hF) dX12_in_15
  · have hf := ie_eq c1 hf
    refine lv_iload_n hx hb dX12_in_5 rfl (lv_at hl 0 rfl) ?_
    refine lv_iload_n hx hb dX12_in_6 rfl (lv_at hl 2 rfl) ?_
    refine lv_icmp_gt (tgt := 14) hx hb dX12_in_7 (by decide) (fun c2 => ?_) (fun c2 => ?_)
    · have hf := it_eq c2 hf
      refine lv_iconst (v := 0) hx hb dX12_in_14 (by decide) ?_
      exact e_rz C0 (b := false) rfl (hf.symm.trans hF) dX12_in_15
    · have hf := ie_eq c2 hf
      refine lv_iconst (v := 1) hx hb dX12_in_10 (by decide) ?_
      refine lv_goto (tgt := 15) hx hb dX12_in_11 (by decide) ?_
      exact e_rz C0 (b := true) rfl (hf.symm.trans hF) dX12_in_15
noncomputable def pX12_fails (m : MS) (a1 : Int32) : Int32 × MS := lt (msi m 3 a1) fun (m_1 : MS) => (0, m_1)
abbrev rX12_fails : Room := { frames := 0, cells := 0, slots := 0, locals := 0 }
set_option maxHeartbeats 4000000 in
set_option maxRecDepth 100000 in
theorem mX12_fails (l : Launch) (dC : Nat → ClassId) (dI : Nat → Nat → Nat) (cI cB cO cL : ClassId) (q : Nat → Nat) (m : MS) (a1 : Int32) (hI : gD (fun _ => True) (mAd q)) : Met l yX12_fails wsX12_fails rX12_fails (gP (dC, dI) (tYS cI cB cO cL) (mw q cI m) [.ref (q 0), .int a1]) (gQi (dC, dI) (fun m9 => mw q cI m9) (wA (mw q cI m)) (pX12_fails m a1)) 0 0 (wA (mw q cI m)) := by
  refine gMet (cc := cX12_fails) (maxL := 2) (ret := some .int) [(0, .ref (q 0)), (1, .int a1)] (by decide) rfl rfl rfl ?_
  intro p e s mi below meth c C0 hK hP ls hl
  obtain ⟨hx, hb, hr, hml, hown, hts, hlocks⟩ := id C0
  have hown : s.vm.findClass RX12 = some mi.cls := hown
  have hS : va_S (wA (mw q cI m)) s.heap s.heap [] := va_S.rf
  have hD : gD (wA (mw q cI m)) (mAd q) := gD_wA (ws := mw q cI m) hI
  have hP : va_P (dC, dI) vwCl (mw q cI m) s.heap := hP
  obtain ⟨F, hF⟩ : ∃ F, F = pX12_fails m a1 := ⟨_, rfl⟩
  have hf := hF
  have hin12 : ∀ w ∈ u_ws RX12 TX12 23, w ∈ wsX12_fails := by decide +kernel
  have fl49 := hts (.fieldLink RX12 49 "ClickBenchModel" "thrown" "I") (by decide +kernel)
  refine lv_aload_n hx hb dX12_fails_0 rfl (lv_at hl 0 rfl) ?_
  refine lv_iload_n hx hb dX12_fails_1 rfl (lv_at hl 1 rfl) ?_
  refine va_put (D := (dC, dI)) (ci := 9) (v := .int a1) (ty := .int) (C := RX12) (T := TX12) (N := 23) hx hb hts hin12 tyX12 tyX12_ok nmX12 hown hK hP (gD_va hD rfl) hS 0 rfl rfl 7 (by decide) fl49 (fun _ h9 => h9) rfl (by decide +kernel) rfl rfl (Nat.le_of_ble_eq_true rfl) dX12_fails_2 (fun H locs hP _ hS => ?_)
  obtain ⟨m_1, em_1⟩ : ∃ z9 : MS, z9 = msi m 3 a1 := ⟨_, rfl⟩
  have hP : va_P (dC, dI) vwCl (mw q cI m_1) H := by rw [em_1]; exact hP
  have hf := lt_eq em_1 hf
  refine lv_iconst (v := 0) hx hb dX12_fails_5 (by decide) ?_
  exact e_mi C0 (hf.symm.trans hF) hP hS dX12_fails_6
noncomputable def pX12_tells (m : MS) (a1 : Int32) : Int32 × MS := lt (msi m 3 0) fun (m_1 : MS) => (a1, m_1)
abbrev rX12_tells : Room := { frames := 0, cells := 0, slots := 0, locals := 0 }
set_option maxHeartbeats 4000000 in
set_option maxRecDepth 100000 in
theorem mX12_tells (l : Launch) (dC : Nat → ClassId) (dI : Nat → Nat → Nat) (cI cB cO cL : ClassId) (q : Nat → Nat) (m : MS) (a1 : Int32) (hI : gD (fun _ => True) (mAd q)) : Met l yX12_tells wsX12_tells rX12_tells (gP (dC, dI) (tYS cI cB cO cL) (mw q cI m) [.ref (q 0), .int a1]) (gQi (dC, dI) (fun m9 => mw q cI m9) (wA (mw q cI m)) (pX12_tells m a1)) 0 0 (wA (mw q cI m)) := by
  refine gMet (cc := cX12_tells) (maxL := 2) (ret := some .int) [(0, .ref (q 0)), (1, .int a1)] (by decide) rfl rfl rfl ?_
  intro p e s mi below meth c C0 hK hP ls hl
  obtain ⟨hx, hb, hr, hml, hown, hts, hlocks⟩ := id C0
  have hown : s.vm.findClass RX12 = some mi.cls := hown
  have hS : va_S (wA (mw q cI m)) s.heap s.heap [] := va_S.rf
  have hD : gD (wA (mw q cI m)) (mAd q) := gD_wA (ws := mw q cI m) hI
  have hP : va_P (dC, dI) vwCl (mw q cI m) s.heap := hP
  obtain ⟨F, hF⟩ : ∃ F, F = pX12_tells m a1 := ⟨_, rfl⟩
  have hf := hF
  have hin12 : ∀ w ∈ u_ws RX12 TX12 23, w ∈ wsX12_tells := by decide +kernel
  have fl49 := hts (.fieldLink RX12 49 "ClickBenchModel" "thrown" "I") (by decide +kernel)
  refine lv_aload_n hx hb dX12_tells_0 rfl (lv_at hl 0 rfl) ?_
  refine lv_iconst (v := 0) hx hb dX12_tells_1 (by decide) ?_
  refine va_put (D := (dC, dI)) (ci := 9) (v := .int 0) (ty := .int) (C := RX12) (T := TX12) (N := 23) hx hb hts hin12 tyX12 tyX12_ok nmX12 hown hK hP (gD_va hD rfl) hS 0 rfl rfl 7 (by decide) fl49 (fun _ h9 => h9) rfl (by decide +kernel) rfl rfl (Nat.le_of_ble_eq_true rfl) dX12_tells_2 (fun H locs hP _ hS => ?_)
  obtain ⟨m_1, em_1⟩ : ∃ z9 : MS, z9 = msi m 3 0 := ⟨_, rfl⟩
  have hP : va_P (dC, dI) vwCl (mw q cI m_1) H := by rw [em_1]; exact hP
  have hf := lt_eq em_1 hf
  refine lv_iload_n hx hb dX12_tells_5 rfl (lv_at hl 1 rfl) ?_
  exact e_mi C0 (hf.symm.trans hF) hP hS dX12_tells_6
noncomputable def bX12_hold_L2   (q_2 : Int32 → MS → MS) (v1_2 : Int32) (m_2 : MS) : MS := if 122 ≤ v1_2 then (m_2) else (lt (msa m_2 2 (upd (m_2.2.2 2) v1_2.toNatClampNeg ((m_2.2.2 0) v1_2.toNatClampNeg))) fun (m_3 : MS) => lt (v1_2 + 1) fun (x4 : Int32) => q_2 x4 m_3)
noncomputable def pX12_hold_L2   : Nat → Int32 → MS → MS
  | 0 => fun _ m_2 => (m_2)
  | n + 1 => bX12_hold_L2   (pX12_hold_L2   n)
def kbX12_hold_L2   (Q_2 : Int32 → MS → Prop) (v1_2 : Int32) (m_2 : MS) : Prop := if 122 ≤ v1_2 then (True) else ((vp_in v1_2 122) ∧ ((vp_in v1_2 122) ∧ (lt (msa m_2 2 (upd (m_2.2.2 2) v1_2.toNatClampNeg ((m_2.2.2 0) v1_2.toNatClampNeg))) fun (m_3 : MS) => lt (v1_2 + 1) fun (x4 : Int32) => Q_2 x4 m_3)))
noncomputable def kX12_hold_L2   : Nat → Int32 → MS → Prop
  | 0 => fun _ _ => False
  | n + 1 => kbX12_hold_L2   (kX12_hold_L2   n)
noncomputable def pX12_hold (m : MS) : MS := pX12_hold_L2 fu 0 m
def kX12_hold (m : MS) : Prop := kX12_hold_L2 fu 0 m
abbrev rX12_hold : Room := { frames := 0, cells := 0, slots := 0, locals := 0 }
set_option maxHeartbeats 4000000 in
set_option maxRecDepth 100000 in
theorem mX12_hold (l : Launch) (dC : Nat → ClassId) (dI : Nat → Nat → Nat) (cI cB cO cL : ClassId) (q : Nat → Nat) (m : MS) (hI : gD (fun _ => True) (mAd q)) (hok : kX12_hold m) : Met l yX12_hold wsX12_hold rX12_hold (gP (dC, dI) (tYS cI cB cO cL) (mw q cI m) [.ref (q 0)]) (gQv (dC, dI) (fun m9 => mw q cI m9) (wA (mw q cI m)) (pX12_hold m)) 0 0 (wA (mw q cI m)) := by
  refine gMet (cc := cX12_hold) (maxL := 2) (ret := none) [(0, .ref (q 0))] (by decide) rfl rfl rfl ?_
  intro p e s mi below meth c C0 hK hP ls hl
  obtain ⟨hx, hb, hr, hml, hown, hts, hlocks⟩ := id C0
  have hown : s.vm.findClass RX12 = some mi.cls := hown
  have hS : va_S (wA (mw q cI m)) s.heap s.heap [] := va_S.rf
  have hD : gD (wA (mw q cI m)) (mAd q) := gD_wA (ws := mw q cI m) hI
  have hP : va_P (dC, dI) vwCl (mw q cI m) s.heap := hP
  obtain ⟨F, hF⟩ : ∃ F, F = pX12_hold m := ⟨_, rfl⟩
  have hf := hF
  have hin12 : ∀ w ∈ u_ws RX12 TX12 23, w ∈ wsX12_hold := by decide +kernel
  have fl16 := hts (.fieldLink RX12 16 "ClickBenchModel" "aside" "[I") (by decide +kernel)
  have fl7 := hts (.fieldLink RX12 7 "ClickBenchModel" "s" "[I") (by decide +kernel)
  have J_2 : ∀ (n_2 : Nat) (v1_2 : Int32) (m_2 : MS) (H : Heap) (locs : List Loc), va_P (dC, dI) vwCl (mw q cI m_2) H → va_S (wA (mw q cI m)) s.heap H locs → ∀ ls : Array Slot, lv_has ls 2 [(0, .ref (q 0)), (1, .int v1_2)] → F = pX12_hold_L2 n_2 v1_2 m_2 → kX12_hold_L2 n_2 v1_2 m_2 → W p l e rX12_hold s mi ([.ref (q 0)] : List Value).toArray below meth c H locs 0 0 (MQ below (gQv (dC, dI) (fun m9 => mw q cI m9) (wA (mw q cI m)) (pX12_hold m)) ([.ref (q 0)] : List Value).toArray s 0 0 (wA (mw q cI m))) (F0 mi 2 ls []) := by
    intro n_2
    induction n_2 with
    | zero =>
      intro v1_2 m_2 H locs hP hS ls hl hf hok
      exact absurd hok (fun h => h)
    | succ n_2 ih_2 =>
      intro v1_2 m_2 H locs hP hS ls hl hf hok
      have hf : F = bX12_hold_L2 (pX12_hold_L2 n_2) v1_2 m_2 := hf
      have hok : kbX12_hold_L2 (kX12_hold_L2 n_2) v1_2 m_2 := hok
      refine lv_iload_n hx hb dX12_hold_2 rfl (lv_at hl 1 rfl) ?_
      refine lv_bipush (v := 122) hx hb dX12_hold_3 (by decide) ?_
      refine lv_icmp_ge (tgt := 26) hx hb dX12_hold_5 (by decide) (fun c1 => ?_) (fun c1 => ?_)
      · have hf := it_eq c1 hf
        exact e_mv C0 (hf.symm.trans hF) hP hS dX12_hold_26
      · have hf := ie_eq c1 hf
        have hok := ie_ok c1 hok
        refine lv_aload_n hx hb dX12_hold_8 rfl (lv_at hl 0 rfl) ?_
        refine va_get (D := (dC, dI)) (ci := 9) (v := .ref (q 3)) (C := RX12) (T := TX12) (N := 23) hx hb hts hin12 hown hK hP 0 rfl rfl 2 (by decide) fl16 (fun _ h9 => h9) rfl dX12_hold_9 ?_
        refine lv_iload_n hx hb dX12_hold_12 rfl (lv_at hl 1 rfl) ?_
        refine lv_aload_n hx hb dX12_hold_13 rfl (lv_at hl 0 rfl) ?_
        refine va_get (D := (dC, dI)) (ci := 9) (v := .ref (q 1)) (C := RX12) (T := TX12) (N := 23) hx hb hts hin12 hown hK hP 0 rfl rfl 0 (by decide) fl7 (fun _ h9 => h9) rfl dX12_hold_14 ?_
        refine lv_iload_n hx hb dX12_hold_17 rfl (lv_at hl 1 rfl) ?_
        obtain ⟨h5, hok⟩ := hok
        refine va_iald (D := (dC, dI)) (tys := (tYS cI cB cO cL)) hx hb hK hP 1 0 rfl rfl h5 dX12_hold_18 ?_
        obtain ⟨h2, hok⟩ := hok
        refine va_iast (D := (dC, dI)) (tys := (tYS cI cB cO cL)) hx hb hK hP (gD_va hD rfl) hS 3 0 rfl rfl h2 dX12_hold_19 (fun H locs hP _ hS => ?_)
        obtain ⟨m_3, em_3⟩ : ∃ z9 : MS, z9 = msa m_2 2 (upd (m_2.2.2 2) v1_2.toNatClampNeg ((m_2.2.2 0) v1_2.toNatClampNeg)) := ⟨_, rfl⟩
        have hP : va_P (dC, dI) vwCl (mw q cI m_3) H := by rw [em_3]; exact hP
        have hf := lt_eq em_3 hf
        have hok := lt_ok em_3 hok
        obtain ⟨x4, ex4⟩ : ∃ y : Int32, y = v1_2 + 1 := ⟨_, rfl⟩
        refine lv_iinc (v := x4) (lv' := [(1, .int x4), (0, .ref (q 0))]) hx hb dX12_hold_20 hl (k := 1) rfl (by rw [ex4]; rfl) (by decide) rfl (fun ls hl => ?_)
        have hf := lt_eq ex4 hf
        have hok := lt_ok ex4 hok
        refine lv_goto (tgt := 2) hx hb dX12_hold_23 (by decide) ?_
        exact ih_2 x4 m_3 _ _ hP hS _ (lv_sub hl [1, 0] rfl) hf hok
  refine lv_iconst (v := 0) hx hb dX12_hold_0 (by decide) ?_
  refine lv_istore_n (lv' := [(1, .int 0), (0, .ref (q 0))]) hx hb dX12_hold_1 rfl hl (by decide) rfl (fun ls hl => ?_)
  exact J_2 fu 0 m _ _ hP hS _ (lv_sub hl [1, 0] rfl) hf hok
noncomputable def bX12_ends_L50   (q_50 : Int32 → Int32 → MS → (Int32 × MS)) (v1_50 : Int32) (v2_50 : Int32) (m_50 : MS) : Int32 × MS := if 122 ≤ v2_50 then (lt (msi m_50 0 ((m_50.1 0) + 1)) fun (m_3 : MS) => bd (pX12_tells m_3 v1_50) fun (r4 : Int32) (u5 : MS) => (r4, u5)) else (lt (msa m_50 1 (upd (m_50.2.2 1) (((122 * (m_50.1 0)) + v2_50).toNatClampNeg) ((m_50.2.2 2) v2_50.toNatClampNeg))) fun (m_7 : MS) => lt (v2_50 + 1) fun (x8 : Int32) => q_50 v1_50 x8 m_7)
noncomputable def pX12_ends_L50   : Nat → Int32 → Int32 → MS → (Int32 × MS)
  | 0 => fun _ _ m_50 => (0, m_50)
  | n + 1 => bX12_ends_L50   (pX12_ends_L50   n)
def kbX12_ends_L50   (Q_50 : Int32 → Int32 → MS → Prop) (v1_50 : Int32) (v2_50 : Int32) (m_50 : MS) : Prop := if 122 ≤ v2_50 then (True) else ((vp_in v2_50 122) ∧ ((vp_in ((122 * (m_50.1 0)) + v2_50) 488) ∧ (lt (msa m_50 1 (upd (m_50.2.2 1) (((122 * (m_50.1 0)) + v2_50).toNatClampNeg) ((m_50.2.2 2) v2_50.toNatClampNeg))) fun (m_7 : MS) => lt (v2_50 + 1) fun (x8 : Int32) => Q_50 v1_50 x8 m_7)))
noncomputable def kX12_ends_L50   : Nat → Int32 → Int32 → MS → Prop
  | 0 => fun _ _ _ => False
  | n + 1 => kbX12_ends_L50   (kX12_ends_L50   n)
noncomputable def pX12_ends_L48   (v1_48 : Int32) (m_48 : MS) : Int32 × MS := pX12_ends_L50 fu v1_48 0 m_48
def kX12_ends_L48   (v1_48 : Int32) (m_48 : MS) : Prop := kX12_ends_L50 fu v1_48 0 m_48
noncomputable def bX12_ends_L10   (q_10 : Int32 → Int32 → MS → (Int32 × MS)) (v1_10 : Int32) (v2_10 : Int32) (m_10 : MS) : Int32 × MS := if 366 ≤ v2_10 then (lt (msi m_10 0 ((m_10.1 0) - 1)) fun (m_11 : MS) => pX12_ends_L48 v1_10 m_11) else (lt (msa m_10 1 (upd (m_10.2.2 1) v2_10.toNatClampNeg ((m_10.2.2 1) ((v2_10 + 122).toNatClampNeg)))) fun (m_13 : MS) => lt (v2_10 + 1) fun (x14 : Int32) => q_10 v1_10 x14 m_13)
noncomputable def pX12_ends_L10   : Nat → Int32 → Int32 → MS → (Int32 × MS)
  | 0 => fun _ _ m_10 => (0, m_10)
  | n + 1 => bX12_ends_L10   (pX12_ends_L10   n)
def kbX12_ends_L10   (Q_10 : Int32 → Int32 → MS → Prop) (v1_10 : Int32) (v2_10 : Int32) (m_10 : MS) : Prop := if 366 ≤ v2_10 then (lt (msi m_10 0 ((m_10.1 0) - 1)) fun (m_11 : MS) => kX12_ends_L48 v1_10 m_11) else ((vp_in (v2_10 + 122) 488) ∧ ((vp_in v2_10 488) ∧ (lt (msa m_10 1 (upd (m_10.2.2 1) v2_10.toNatClampNeg ((m_10.2.2 1) ((v2_10 + 122).toNatClampNeg)))) fun (m_13 : MS) => lt (v2_10 + 1) fun (x14 : Int32) => Q_10 v1_10 x14 m_13)))
noncomputable def kX12_ends_L10   : Nat → Int32 → Int32 → MS → Prop
  | 0 => fun _ _ _ => False
  | n + 1 => kbX12_ends_L10   (kX12_ends_L10   n)
noncomputable def pX12_ends (m : MS) (a1 : Int32) : Int32 × MS := if (m.1 0) = 4 then (pX12_ends_L10 fu a1 0 m) else (pX12_ends_L48 a1 m)
def kX12_ends (m : MS) (a1 : Int32) : Prop := if (m.1 0) = 4 then (kX12_ends_L10 fu a1 0 m) else (kX12_ends_L48 a1 m)
abbrev rX12_ends : Room := { frames := 1, cells := 0, slots := 0, locals := 21 }
set_option maxHeartbeats 4000000 in
set_option maxRecDepth 100000 in
theorem mX12_ends (l : Launch) (dC : Nat → ClassId) (dI : Nat → Nat → Nat) (cI cB cO cL : ClassId) (q : Nat → Nat) (m : MS) (a1 : Int32) (hI : gD (fun _ => True) (mAd q)) (hok : kX12_ends m a1) : Met l yX12_ends wsX12_ends rX12_ends (gP (dC, dI) (tYS cI cB cO cL) (mw q cI m) [.ref (q 0), .int a1]) (gQi (dC, dI) (fun m9 => mw q cI m9) (wA (mw q cI m)) (pX12_ends m a1)) 0 0 (wA (mw q cI m)) := by
  refine gMet (cc := cX12_ends) (maxL := 3) (ret := some .int) [(0, .ref (q 0)), (1, .int a1)] (by decide) rfl rfl rfl ?_
  intro p e s mi below meth c C0 hK hP ls hl
  obtain ⟨hx, hb, hr, hml, hown, hts, hlocks⟩ := id C0
  have hown : s.vm.findClass RX12 = some mi.cls := hown
  have hS : va_S (wA (mw q cI m)) s.heap s.heap [] := va_S.rf
  have hD : gD (wA (mw q cI m)) (mAd q) := gD_wA (ws := mw q cI m) hI
  have hP : va_P (dC, dI) vwCl (mw q cI m) s.heap := hP
  obtain ⟨F, hF⟩ : ∃ F, F = pX12_ends m a1 := ⟨_, rfl⟩
  have hf := hF
  have hin12 : ∀ w ∈ u_ws RX12 TX12 23, w ∈ wsX12_ends := by decide +kernel
  have fl53 := hts (.fieldLink RX12 53 "ClickBenchModel" "pasts" "I") (by decide +kernel)
  have fl13 := hts (.fieldLink RX12 13 "ClickBenchModel" "past" "[I") (by decide +kernel)
  have fl16 := hts (.fieldLink RX12 16 "ClickBenchModel" "aside" "[I") (by decide +kernel)
  have J_50 : ∀ (n_50 : Nat) (v1_50 : Int32) (v2_50 : Int32) (m_50 : MS) (H : Heap) (locs : List Loc), va_P (dC, dI) vwCl (mw q cI m_50) H → va_S (wA (mw q cI m)) s.heap H locs → ∀ ls : Array Slot, lv_has ls 3 [(0, .ref (q 0)), (1, .int v1_50), (2, .int v2_50)] → F = pX12_ends_L50 n_50 v1_50 v2_50 m_50 → kX12_ends_L50 n_50 v1_50 v2_50 m_50 → W p l e rX12_ends s mi ([.ref (q 0), .int a1] : List Value).toArray below meth c H locs 0 0 (MQ below (gQi (dC, dI) (fun m9 => mw q cI m9) (wA (mw q cI m)) (pX12_ends m a1)) ([.ref (q 0), .int a1] : List Value).toArray s 0 0 (wA (mw q cI m))) (F0 mi 50 ls []) := by
    intro n_50
    induction n_50 with
    | zero =>
      intro v1_50 v2_50 m_50 H locs hP hS ls hl hf hok
      exact absurd hok (fun h => h)
    | succ n_50 ih_50 =>
      intro v1_50 v2_50 m_50 H locs hP hS ls hl hf hok
      have hf : F = bX12_ends_L50 (pX12_ends_L50 n_50) v1_50 v2_50 m_50 := hf
      have hok : kbX12_ends_L50 (kX12_ends_L50 n_50) v1_50 v2_50 m_50 := hok
      refine lv_iload_n hx hb dX12_ends_50 rfl (lv_at hl 2 rfl) ?_
      refine lv_bipush (v := 122) hx hb dX12_ends_51 (by decide) ?_
      refine lv_icmp_ge (tgt := 82) hx hb dX12_ends_53 (by decide) (fun c2 => ?_) (fun c2 => ?_)
      · have hf := it_eq c2 hf
        refine lv_aload_n hx hb dX12_ends_82 rfl (lv_at hl 0 rfl) ?_
        refine lv_dup hx hb dX12_ends_83 rfl ?_
        refine va_get (D := (dC, dI)) (ci := 9) (v := .int (m_50.1 0)) (C := RX12) (T := TX12) (N := 23) hx hb hts hin12 hown hK hP 0 rfl rfl 3 (by decide) fl53 (fun _ h9 => h9) rfl dX12_ends_84 ?_
        refine lv_iconst (v := 1) hx hb dX12_ends_87 (by decide) ?_
        refine lv_iadd hx hb dX12_ends_88 ?_
        refine va_put (D := (dC, dI)) (ci := 9) (v := .int ((m_50.1 0) + 1)) (ty := .int) (C := RX12) (T := TX12) (N := 23) hx hb hts hin12 tyX12 tyX12_ok nmX12 hown hK hP (gD_va hD rfl) hS 0 rfl rfl 3 (by decide) fl53 (fun _ h9 => h9) rfl (by decide +kernel) rfl rfl (Nat.le_of_ble_eq_true rfl) dX12_ends_89 (fun H locs hP _ hS => ?_)
        obtain ⟨m_3, em_3⟩ : ∃ z9 : MS, z9 = msi m_50 0 ((m_50.1 0) + 1) := ⟨_, rfl⟩
        have hP : va_P (dC, dI) vwCl (mw q cI m_3) H := by rw [em_3]; exact hP
        have hf := lt_eq em_3 hf
        refine lv_aload_n hx hb dX12_ends_92 rfl (lv_at hl 0 rfl) ?_
        refine lv_iload_n hx hb dX12_ends_93 rfl (lv_at hl 1 rfl) ?_
        refine gms_i (va_runV (As := [.int v1_50]) (rest := []) ⟨hx, hb, hml, hown, hts⟩ (mX12_tells l dC dI cI cB cO cL q m_3 v1_50 (gD_any hD) ) (cwV 1 hts gX12_ends_X12_tells rfl rfl rfl (by decide +kernel) ⟨Nat.le_of_ble_eq_true rfl, Nat.le_of_ble_eq_true rfl⟩) ⟨gP_blind, va_recv hK hP (ci := 9) (q0 := 0) rfl rfl, gP_ok hP hK⟩ rfl rfl hl.1 rfl (lv_room (Nat.le_of_ble_eq_true rfl)) dX12_ends_94 ⟨Nat.zero_le _, Nat.zero_le _⟩) hP (gD_va hD rfl) hS (fun r4 u5 H locs hw hP hS => ?_)
        have hP : va_P (dC, dI) vwCl (mw q cI u5) H := hP
        have hf := bd_eq hw hf
        exact e_mi C0 (hf.symm.trans hF) hP hS dX12_ends_97
      · have hf := ie_eq c2 hf
        have hok := ie_ok c2 hok
        refine lv_aload_n hx hb dX12_ends_56 rfl (lv_at hl 0 rfl) ?_
        refine va_get (D := (dC, dI)) (ci := 9) (v := .ref (q 2)) (C := RX12) (T := TX12) (N := 23) hx hb hts hin12 hown hK hP 0 rfl rfl 1 (by decide) fl13 (fun _ h9 => h9) rfl dX12_ends_57 ?_
        refine lv_bipush (v := 122) hx hb dX12_ends_60 (by decide) ?_
        refine lv_aload_n hx hb dX12_ends_62 rfl (lv_at hl 0 rfl) ?_
        refine va_get (D := (dC, dI)) (ci := 9) (v := .int (m_50.1 0)) (C := RX12) (T := TX12) (N := 23) hx hb hts hin12 hown hK hP 0 rfl rfl 3 (by decide) fl53 (fun _ h9 => h9) rfl dX12_ends_63 ?_
        refine lv_imul hx hb dX12_ends_66 ?_
        refine lv_iload_n hx hb dX12_ends_67 rfl (lv_at hl 2 rfl) ?_
        refine lv_iadd hx hb dX12_ends_68 ?_
        refine lv_aload_n hx hb dX12_ends_69 rfl (lv_at hl 0 rfl) ?_
        refine va_get (D := (dC, dI)) (ci := 9) (v := .ref (q 3)) (C := RX12) (T := TX12) (N := 23) hx hb hts hin12 hown hK hP 0 rfl rfl 2 (by decide) fl16 (fun _ h9 => h9) rfl dX12_ends_70 ?_
        refine lv_iload_n hx hb dX12_ends_73 rfl (lv_at hl 2 rfl) ?_
        obtain ⟨h9, hok⟩ := hok
        refine va_iald (D := (dC, dI)) (tys := (tYS cI cB cO cL)) hx hb hK hP 3 0 rfl rfl h9 dX12_ends_74 ?_
        obtain ⟨h6, hok⟩ := hok
        refine va_iast (D := (dC, dI)) (tys := (tYS cI cB cO cL)) hx hb hK hP (gD_va hD rfl) hS 2 0 rfl rfl h6 dX12_ends_75 (fun H locs hP _ hS => ?_)
        obtain ⟨m_7, em_7⟩ : ∃ z9 : MS, z9 = msa m_50 1 (upd (m_50.2.2 1) (((122 * (m_50.1 0)) + v2_50).toNatClampNeg) ((m_50.2.2 2) v2_50.toNatClampNeg)) := ⟨_, rfl⟩
        have hP : va_P (dC, dI) vwCl (mw q cI m_7) H := by rw [em_7]; exact hP
        have hf := lt_eq em_7 hf
        have hok := lt_ok em_7 hok
        obtain ⟨x8, ex8⟩ : ∃ y : Int32, y = v2_50 + 1 := ⟨_, rfl⟩
        refine lv_iinc (v := x8) (lv' := [(2, .int x8), (0, .ref (q 0)), (1, .int v1_50)]) hx hb dX12_ends_76 hl (k := 2) rfl (by rw [ex8]; rfl) (by decide) rfl (fun ls hl => ?_)
        have hf := lt_eq ex8 hf
        have hok := lt_ok ex8 hok
        refine lv_goto (tgt := 50) hx hb dX12_ends_79 (by decide) ?_
        exact ih_50 v1_50 x8 m_7 _ _ hP hS _ (lv_sub hl [1, 2, 0] rfl) hf hok
  have J_48 : ∀ (v1_48 : Int32) (m_48 : MS) (H : Heap) (locs : List Loc), va_P (dC, dI) vwCl (mw q cI m_48) H → va_S (wA (mw q cI m)) s.heap H locs → ∀ ls : Array Slot, lv_has ls 3 [(0, .ref (q 0)), (1, .int v1_48)] → F = pX12_ends_L48 v1_48 m_48 → kX12_ends_L48 v1_48 m_48 → W p l e rX12_ends s mi ([.ref (q 0), .int a1] : List Value).toArray below meth c H locs 0 0 (MQ below (gQi (dC, dI) (fun m9 => mw q cI m9) (wA (mw q cI m)) (pX12_ends m a1)) ([.ref (q 0), .int a1] : List Value).toArray s 0 0 (wA (mw q cI m))) (F0 mi 48 ls []) := by
    intro v1_48 m_48 H locs hP hS ls hl hf hok
    refine lv_iconst (v := 0) hx hb dX12_ends_48 (by decide) ?_
    refine lv_istore_n (lv' := [(2, .int 0), (0, .ref (q 0)), (1, .int v1_48)]) hx hb dX12_ends_49 rfl hl (by decide) rfl (fun ls hl => ?_)
    exact J_50 fu v1_48 0 m_48 _ _ hP hS _ (lv_sub hl [1, 2, 0] rfl) hf hok
  have J_10 : ∀ (n_10 : Nat) (v1_10 : Int32) (v2_10 : Int32) (m_10 : MS) (H : Heap) (locs : List Loc), va_P (dC, dI) vwCl (mw q cI m_10) H → va_S (wA (mw q cI m)) s.heap H locs → ∀ ls : Array Slot, lv_has ls 3 [(0, .ref (q 0)), (1, .int v1_10), (2, .int v2_10)] → F = pX12_ends_L10 n_10 v1_10 v2_10 m_10 → kX12_ends_L10 n_10 v1_10 v2_10 m_10 → W p l e rX12_ends s mi ([.ref (q 0), .int a1] : List Value).toArray below meth c H locs 0 0 (MQ below (gQi (dC, dI) (fun m9 => mw q cI m9) (wA (mw q cI m)) (pX12_ends m a1)) ([.ref (q 0), .int a1] : List Value).toArray s 0 0 (wA (mw q cI m))) (F0 mi 10 ls []) := by
    intro n_10
    induction n_10 with
    | zero =>
      intro v1_10 v2_10 m_10 H locs hP hS ls hl hf hok
      exact absurd hok (fun h => h)
    | succ n_10 ih_10 =>
      intro v1_10 v2_10 m_10 H locs hP hS ls hl hf hok
      have hf : F = bX12_ends_L10 (pX12_ends_L10 n_10) v1_10 v2_10 m_10 := hf
      have hok : kbX12_ends_L10 (kX12_ends_L10 n_10) v1_10 v2_10 m_10 := hok
      refine lv_iload_n hx hb dX12_ends_10 rfl (lv_at hl 2 rfl) ?_
      refine lv_sipush (v := 366) hx hb dX12_ends_11 (by decide) ?_
      refine lv_icmp_ge (tgt := 38) hx hb dX12_ends_14 (by decide) (fun c10 => ?_) (fun c10 => ?_)
      · have hf := it_eq c10 hf
        have hok := it_ok c10 hok
        refine lv_aload_n hx hb dX12_ends_38 rfl (lv_at hl 0 rfl) ?_
        refine lv_dup hx hb dX12_ends_39 rfl ?_
        refine va_get (D := (dC, dI)) (ci := 9) (v := .int (m_10.1 0)) (C := RX12) (T := TX12) (N := 23) hx hb hts hin12 hown hK hP 0 rfl rfl 3 (by decide) fl53 (fun _ h9 => h9) rfl dX12_ends_40 ?_
        refine lv_iconst (v := 1) hx hb dX12_ends_43 (by decide) ?_
        refine lv_isub hx hb dX12_ends_44 ?_
        refine va_put (D := (dC, dI)) (ci := 9) (v := .int ((m_10.1 0) - 1)) (ty := .int) (C := RX12) (T := TX12) (N := 23) hx hb hts hin12 tyX12 tyX12_ok nmX12 hown hK hP (gD_va hD rfl) hS 0 rfl rfl 3 (by decide) fl53 (fun _ h9 => h9) rfl (by decide +kernel) rfl rfl (Nat.le_of_ble_eq_true rfl) dX12_ends_45 (fun H locs hP _ hS => ?_)
        obtain ⟨m_11, em_11⟩ : ∃ z9 : MS, z9 = msi m_10 0 ((m_10.1 0) - 1) := ⟨_, rfl⟩
        have hP : va_P (dC, dI) vwCl (mw q cI m_11) H := by rw [em_11]; exact hP
        have hf := lt_eq em_11 hf
        have hok := lt_ok em_11 hok
        exact J_48 v1_10 m_11 _ _ hP hS _ (lv_sub hl [0, 1] rfl) hf hok
      · have hf := ie_eq c10 hf
        have hok := ie_ok c10 hok
        refine lv_aload_n hx hb dX12_ends_17 rfl (lv_at hl 0 rfl) ?_
        refine va_get (D := (dC, dI)) (ci := 9) (v := .ref (q 2)) (C := RX12) (T := TX12) (N := 23) hx hb hts hin12 hown hK hP 0 rfl rfl 1 (by decide) fl13 (fun _ h9 => h9) rfl dX12_ends_18 ?_
        refine lv_iload_n hx hb dX12_ends_21 rfl (lv_at hl 2 rfl) ?_
        refine lv_aload_n hx hb dX12_ends_22 rfl (lv_at hl 0 rfl) ?_
        refine va_get (D := (dC, dI)) (ci := 9) (v := .ref (q 2)) (C := RX12) (T := TX12) (N := 23) hx hb hts hin12 hown hK hP 0 rfl rfl 1 (by decide) fl13 (fun _ h9 => h9) rfl dX12_ends_23 ?_
        refine lv_iload_n hx hb dX12_ends_26 rfl (lv_at hl 2 rfl) ?_
        refine lv_bipush (v := 122) hx hb dX12_ends_27 (by decide) ?_
        refine lv_iadd hx hb dX12_ends_29 ?_
        obtain ⟨h15, hok⟩ := hok
        refine va_iald (D := (dC, dI)) (tys := (tYS cI cB cO cL)) hx hb hK hP 2 0 rfl rfl h15 dX12_ends_30 ?_
        obtain ⟨h12, hok⟩ := hok
        refine va_iast (D := (dC, dI)) (tys := (tYS cI cB cO cL)) hx hb hK hP (gD_va hD rfl) hS 2 0 rfl rfl h12 dX12_ends_31 (fun H locs hP _ hS => ?_)
        obtain ⟨m_13, em_13⟩ : ∃ z9 : MS, z9 = msa m_10 1 (upd (m_10.2.2 1) v2_10.toNatClampNeg ((m_10.2.2 1) ((v2_10 + 122).toNatClampNeg))) := ⟨_, rfl⟩
        have hP : va_P (dC, dI) vwCl (mw q cI m_13) H := by rw [em_13]; exact hP
        have hf := lt_eq em_13 hf
        have hok := lt_ok em_13 hok
        obtain ⟨x14, ex14⟩ : ∃ y : Int32, y = v2_10 + 1 := ⟨_, rfl⟩
        refine lv_iinc (v := x14) (lv' := [(2, .int x14), (0, .ref (q 0)), (1, .int v1_10)]) hx hb dX12_ends_32 hl (k := 2) rfl (by rw [ex14]; rfl) (by decide) rfl (fun ls hl => ?_)
        have hf := lt_eq ex14 hf
        have hok := lt_ok ex14 hok
        refine lv_goto (tgt := 10) hx hb dX12_ends_35 (by decide) ?_
        exact ih_10 v1_10 x14 m_13 _ _ hP hS _ (lv_sub hl [1, 2, 0] rfl) hf hok
  refine lv_aload_n hx hb dX12_ends_0 rfl (lv_at hl 0 rfl) ?_
  refine va_get (D := (dC, dI)) (ci := 9) (v := .int (m.1 0)) (C := RX12) (T := TX12) (N := 23) hx hb hts hin12 hown hK hP 0 rfl rfl 3 (by decide) fl53 (fun _ h9 => h9) rfl dX12_ends_1 ?_
  refine lv_iconst (v := 4) hx hb dX12_ends_4 (by decide) ?_
  refine lv_icmp_ne (tgt := 48) hx hb dX12_ends_5 (by decide) (fun c1 => ?_) (fun c1 => ?_)
  · have hf := ie_eq c1 hf
    have hok := ie_ok c1 hok
    exact J_48 a1 m _ _ hP hS _ (lv_sub hl [0, 1] rfl) hf hok
  · have hf := it_eq c1 hf
    have hok := it_ok c1 hok
    refine lv_iconst (v := 0) hx hb dX12_ends_8 (by decide) ?_
    refine lv_istore_n (lv' := [(2, .int 0), (0, .ref (q 0)), (1, .int a1)]) hx hb dX12_ends_9 rfl hl (by decide) rfl (fun ls hl => ?_)
    exact J_10 fu a1 0 m _ _ hP hS _ (lv_sub hl [1, 2, 0] rfl) hf hok
noncomputable def pX12_of (m : MS) (a1 : Int32) (a2 : Int32) : Int32 := (m.2.2 0) (((14 + (10 * a1)) + a2).toNatClampNeg)
def kX12_of (m : MS) (a1 : Int32) (a2 : Int32) : Prop := vp_in ((14 + (10 * a1)) + a2) 122
abbrev rX12_of : Room := { frames := 0, cells := 0, slots := 0, locals := 0 }
set_option maxHeartbeats 4000000 in
set_option maxRecDepth 100000 in
theorem mX12_of (l : Launch) (dC : Nat → ClassId) (dI : Nat → Nat → Nat) (cI cB cO cL : ClassId) (q : Nat → Nat) (m : MS) (a1 : Int32) (a2 : Int32) (hok : kX12_of m a1 a2) : Met l yX12_of wsX12_of rX12_of (gP (dC, dI) (tYS cI cB cO cL) (mw q cI m) [.ref (q 0), .int a1, .int a2]) (gRi (pX12_of m a1 a2)) 0 0 (fun _ => False) := by
  refine gMet (cc := cX12_of) (maxL := 3) (ret := some .int) [(0, .ref (q 0)), (1, .int a1), (2, .int a2)] (by decide) rfl rfl rfl ?_
  intro p e s mi below meth c C0 hK hP ls hl
  obtain ⟨hx, hb, hr, hml, hown, hts, hlocks⟩ := id C0
  have hown : s.vm.findClass RX12 = some mi.cls := hown
  obtain ⟨F, hF⟩ : ∃ F, F = pX12_of m a1 a2 := ⟨_, rfl⟩
  have hf := hF
  have hin12 : ∀ w ∈ u_ws RX12 TX12 23, w ∈ wsX12_of := by decide +kernel
  have fl7 := hts (.fieldLink RX12 7 "ClickBenchModel" "s" "[I") (by decide +kernel)
  refine lv_aload_n hx hb dX12_of_0 rfl (lv_at hl 0 rfl) ?_
  refine va_get (D := (dC, dI)) (ci := 9) (v := .ref (q 1)) (C := RX12) (T := TX12) (N := 23) hx hb hts hin12 hown hK hP 0 rfl rfl 0 (by decide) fl7 (fun _ h9 => h9) rfl dX12_of_1 ?_
  refine lv_bipush (v := 14) hx hb dX12_of_4 (by decide) ?_
  refine lv_bipush (v := 10) hx hb dX12_of_6 (by decide) ?_
  refine lv_iload_n hx hb dX12_of_8 rfl (lv_at hl 1 rfl) ?_
  refine lv_imul hx hb dX12_of_9 ?_
  refine lv_iadd hx hb dX12_of_10 ?_
  refine lv_iload_n hx hb dX12_of_11 rfl (lv_at hl 2 rfl) ?_
  refine lv_iadd hx hb dX12_of_12 ?_
  have h1 : vp_in ((14 + (10 * a1)) + a2) 122 := hok
  refine va_iald (D := (dC, dI)) (tys := (tYS cI cB cO cL)) hx hb hK hP 1 0 rfl rfl h1 dX12_of_13 ?_
  exact e_ri C0 (hf.symm.trans hF) dX12_of_14
noncomputable def pX12_puts (m : MS) (a1 : Int32) (a2 : Int32) (a3 : Int32) : MS := lt (msa m 0 (upd (m.2.2 0) (((14 + (10 * a1)) + a2).toNatClampNeg) a3)) fun (m_2 : MS) => m_2
def kX12_puts (m : MS) (a1 : Int32) (a2 : Int32) (a3 : Int32) : Prop := vp_in ((14 + (10 * a1)) + a2) 122
abbrev rX12_puts : Room := { frames := 0, cells := 0, slots := 0, locals := 0 }
set_option maxHeartbeats 4000000 in
set_option maxRecDepth 100000 in
theorem mX12_puts (l : Launch) (dC : Nat → ClassId) (dI : Nat → Nat → Nat) (cI cB cO cL : ClassId) (q : Nat → Nat) (m : MS) (a1 : Int32) (a2 : Int32) (a3 : Int32) (hI : gD (fun _ => True) (mAd q)) (hok : kX12_puts m a1 a2 a3) : Met l yX12_puts wsX12_puts rX12_puts (gP (dC, dI) (tYS cI cB cO cL) (mw q cI m) [.ref (q 0), .int a1, .int a2, .int a3]) (gQv (dC, dI) (fun m9 => mw q cI m9) (wA (mw q cI m)) (pX12_puts m a1 a2 a3)) 0 0 (wA (mw q cI m)) := by
  refine gMet (cc := cX12_puts) (maxL := 4) (ret := none) [(0, .ref (q 0)), (1, .int a1), (2, .int a2), (3, .int a3)] (by decide) rfl rfl rfl ?_
  intro p e s mi below meth c C0 hK hP ls hl
  obtain ⟨hx, hb, hr, hml, hown, hts, hlocks⟩ := id C0
  have hown : s.vm.findClass RX12 = some mi.cls := hown
  have hS : va_S (wA (mw q cI m)) s.heap s.heap [] := va_S.rf
  have hD : gD (wA (mw q cI m)) (mAd q) := gD_wA (ws := mw q cI m) hI
  have hP : va_P (dC, dI) vwCl (mw q cI m) s.heap := hP
  obtain ⟨F, hF⟩ : ∃ F, F = pX12_puts m a1 a2 a3 := ⟨_, rfl⟩
  have hf := hF
  have hin12 : ∀ w ∈ u_ws RX12 TX12 23, w ∈ wsX12_puts := by decide +kernel
  have fl7 := hts (.fieldLink RX12 7 "ClickBenchModel" "s" "[I") (by decide +kernel)
  refine lv_aload_n hx hb dX12_puts_0 rfl (lv_at hl 0 rfl) ?_
  refine va_get (D := (dC, dI)) (ci := 9) (v := .ref (q 1)) (C := RX12) (T := TX12) (N := 23) hx hb hts hin12 hown hK hP 0 rfl rfl 0 (by decide) fl7 (fun _ h9 => h9) rfl dX12_puts_1 ?_
  refine lv_bipush (v := 14) hx hb dX12_puts_4 (by decide) ?_
  refine lv_bipush (v := 10) hx hb dX12_puts_6 (by decide) ?_
  refine lv_iload_n hx hb dX12_puts_8 rfl (lv_at hl 1 rfl) ?_
  refine lv_imul hx hb dX12_puts_9 ?_
  refine lv_iadd hx hb dX12_puts_10 ?_
  refine lv_iload_n hx hb dX12_puts_11 rfl (lv_at hl 2 rfl) ?_
  refine lv_iadd hx hb dX12_puts_12 ?_
  refine lv_iload_n hx hb dX12_puts_13 rfl (lv_at hl 3 rfl) ?_
  have h1 : vp_in ((14 + (10 * a1)) + a2) 122 := hok
  refine va_iast (D := (dC, dI)) (tys := (tYS cI cB cO cL)) hx hb hK hP (gD_va hD rfl) hS 1 0 rfl rfl h1 dX12_puts_14 (fun H locs hP _ hS => ?_)
  obtain ⟨m_2, em_2⟩ : ∃ z9 : MS, z9 = msa m 0 (upd (m.2.2 0) (((14 + (10 * a1)) + a2).toNatClampNeg) a3) := ⟨_, rfl⟩
  have hP : va_P (dC, dI) vwCl (mw q cI m_2) H := by rw [em_2]; exact hP
  have hf := lt_eq em_2 hf
  exact e_mv C0 (hf.symm.trans hF) hP hS dX12_puts_15
noncomputable def pX12_isMicrophone (m : MS) (a1 : Int32) : Bool := if a1 < 0 then (false) else (if ((m.2.2 0) 2) ≤ a1 then (false) else (true))
abbrev rX12_isMicrophone : Room := { frames := 0, cells := 0, slots := 0, locals := 0 }
set_option maxHeartbeats 4000000 in
set_option maxRecDepth 100000 in
theorem mX12_isMicrophone (l : Launch) (dC : Nat → ClassId) (dI : Nat → Nat → Nat) (cI cB cO cL : ClassId) (q : Nat → Nat) (m : MS) (a1 : Int32) : Met l yX12_isMicrophone wsX12_isMicrophone rX12_isMicrophone (gP (dC, dI) (tYS cI cB cO cL) (mw q cI m) [.ref (q 0), .int a1]) (gRz (pX12_isMicrophone m a1)) 0 0 (fun _ => False) := by
  refine gMet (cc := cX12_isMicrophone) (maxL := 2) (ret := some .boolean) [(0, .ref (q 0)), (1, .int a1)] (by decide) rfl rfl rfl ?_
  intro p e s mi below meth c C0 hK hP ls hl
  obtain ⟨hx, hb, hr, hml, hown, hts, hlocks⟩ := id C0
  have hown : s.vm.findClass RX12 = some mi.cls := hown
  obtain ⟨F, hF⟩ : ∃ F, F = pX12_isMicrophone m a1 := ⟨_, rfl⟩
  have hf := hF
  have hin12 : ∀ w ∈ u_ws RX12 TX12 23, w ∈ wsX12_isMicrophone := by decide +kernel
  have fl7 := hts (.fieldLink RX12 7 "ClickBenchModel" "s" "[I") (by decide +kernel)
  refine lv_iload_n hx hb dX12_isMicrophone_0 rfl (lv_at hl 1 rfl) ?_
  refine lv_if_lt (tgt := 18) hx hb dX12_isMicrophone_1 (by decide) (fun c1 => ?_) (fun c1 => ?_)
  · have hf := it_eq c1 hf
    refine lv_iconst (v := 0) hx hb dX12_isMicrophone_18 (by decide) ?_
    exact e_rz C0 (b := false) rfl (hf.symm.trans hF) dX12_isMicrophone_19
  · have hf := ie_eq c1 hf
    refine lv_iload_n hx hb dX12_isMicrophone_4 rfl (lv_at hl 1 rfl) ?_
    refine lv_aload_n hx hb dX12_isMicrophone_5 rfl (lv_at hl 0 rfl) ?_
    refine va_get (D := (dC, dI)) (ci := 9) (v := .ref (q 1)) (C := RX12) (T := TX12) (N := 23) hx hb hts hin12 hown hK hP 0 rfl rfl 0 (by decide) fl7 (fun _ h9 => h9) rfl dX12_isMicrophone_6 ?_
    refine lv_iconst (v := 2) hx hb dX12_isMicrophone_9 (by decide) ?_
    refine g_ialdK (D := (dC, dI)) (tys := (tYS cI cB cO cL)) (k := 2) hx hb hK hP 1 0 rfl rfl (by decide) (by decide) (by decide) dX12_isMicrophone_10 ?_
    refine lv_icmp_ge (tgt := 18) hx hb dX12_isMicrophone_11 (by decide) (fun c2 => ?_) (fun c2 => ?_)
    · have hf := it_eq c2 hf
      refine lv_iconst (v := 0) hx hb dX12_isMicrophone_18 (by decide) ?_
      exact e_rz C0 (b := false) rfl (hf.symm.trans hF) dX12_isMicrophone_19
    · have hf := ie_eq c2 hf
      refine lv_iconst (v := 1) hx hb dX12_isMicrophone_14 (by decide) ?_
      refine lv_goto (tgt := 19) hx hb dX12_isMicrophone_15 (by decide) ?_
      exact e_rz C0 (b := true) rfl (hf.symm.trans hF) dX12_isMicrophone_19
noncomputable def pX12_isCell (m : MS) (a1 : Int32) : Bool := if a1 < 0 then (false) else (if (((m.2.2 0) 0) * ((m.2.2 0) 1)) ≤ a1 then (false) else (true))
abbrev rX12_isCell : Room := { frames := 0, cells := 0, slots := 0, locals := 0 }
set_option maxHeartbeats 4000000 in
set_option maxRecDepth 100000 in
theorem mX12_isCell (l : Launch) (dC : Nat → ClassId) (dI : Nat → Nat → Nat) (cI cB cO cL : ClassId) (q : Nat → Nat) (m : MS) (a1 : Int32) : Met l yX12_isCell wsX12_isCell rX12_isCell (gP (dC, dI) (tYS cI cB cO cL) (mw q cI m) [.ref (q 0), .int a1]) (gRz (pX12_isCell m a1)) 0 0 (fun _ => False) := by
  refine gMet (cc := cX12_isCell) (maxL := 2) (ret := some .boolean) [(0, .ref (q 0)), (1, .int a1)] (by decide) rfl rfl rfl ?_
  intro p e s mi below meth c C0 hK hP ls hl
  obtain ⟨hx, hb, hr, hml, hown, hts, hlocks⟩ := id C0
  have hown : s.vm.findClass RX12 = some mi.cls := hown
  obtain ⟨F, hF⟩ : ∃ F, F = pX12_isCell m a1 := ⟨_, rfl⟩
  have hf := hF
  have hin12 : ∀ w ∈ u_ws RX12 TX12 23, w ∈ wsX12_isCell := by decide +kernel
  have fl7 := hts (.fieldLink RX12 7 "ClickBenchModel" "s" "[I") (by decide +kernel)
  refine lv_iload_n hx hb dX12_isCell_0 rfl (lv_at hl 1 rfl) ?_
  refine lv_if_lt (tgt := 25) hx hb dX12_isCell_1 (by decide) (fun c1 => ?_) (fun c1 => ?_)
  · have hf := it_eq c1 hf
    refine lv_iconst (v := 0) hx hb dX12_isCell_25 (by decide) ?_
    exact e_rz C0 (b := false) rfl (hf.symm.trans hF) dX12_isCell_26
  · have hf := ie_eq c1 hf
    refine lv_iload_n hx hb dX12_isCell_4 rfl (lv_at hl 1 rfl) ?_
    refine lv_aload_n hx hb dX12_isCell_5 rfl (lv_at hl 0 rfl) ?_
    refine va_get (D := (dC, dI)) (ci := 9) (v := .ref (q 1)) (C := RX12) (T := TX12) (N := 23) hx hb hts hin12 hown hK hP 0 rfl rfl 0 (by decide) fl7 (fun _ h9 => h9) rfl dX12_isCell_6 ?_
    refine lv_iconst (v := 0) hx hb dX12_isCell_9 (by decide) ?_
    refine g_ialdK (D := (dC, dI)) (tys := (tYS cI cB cO cL)) (k := 0) hx hb hK hP 1 0 rfl rfl (by decide) (by decide) (by decide) dX12_isCell_10 ?_
    refine lv_aload_n hx hb dX12_isCell_11 rfl (lv_at hl 0 rfl) ?_
    refine va_get (D := (dC, dI)) (ci := 9) (v := .ref (q 1)) (C := RX12) (T := TX12) (N := 23) hx hb hts hin12 hown hK hP 0 rfl rfl 0 (by decide) fl7 (fun _ h9 => h9) rfl dX12_isCell_12 ?_
    refine lv_iconst (v := 1) hx hb dX12_isCell_15 (by decide) ?_
    refine g_ialdK (D := (dC, dI)) (tys := (tYS cI cB cO cL)) (k := 1) hx hb hK hP 1 0 rfl rfl (by decide) (by decide) (by decide) dX12_isCell_16 ?_
    refine lv_imul hx hb dX12_isCell_17 ?_
    refine lv_icmp_ge (tgt := 25) hx hb dX12_isCell_18 (by decide) (fun c2 => ?_) (fun c2 => ?_)
    · have hf := it_eq c2 hf
      refine lv_iconst (v := 0) hx hb dX12_isCell_25 (by decide) ?_
      exact e_rz C0 (b := false) rfl (hf.symm.trans hF) dX12_isCell_26
    · have hf := ie_eq c2 hf
      refine lv_iconst (v := 1) hx hb dX12_isCell_21 (by decide) ?_
      refine lv_goto (tgt := 26) hx hb dX12_isCell_22 (by decide) ?_
      exact e_rz C0 (b := true) rfl (hf.symm.trans hF) dX12_isCell_26
noncomputable def bX12_root_L6   (q_6 : Int32 → Int32 → Int32 → Int32) (v0_6 : Int32) (v1_6 : Int32) (v2_6 : Int32) : Int32 := if v2_6 ≤ v1_6 then (v1_6) else (lt (((v1_6 + v2_6) + 1) / 2) fun (x2 : Int32) => if v0_6 < (x2 * x2) then (lt (x2 - 1) fun (x4 : Int32) => q_6 v0_6 v1_6 x4) else (q_6 v0_6 x2 v2_6))
noncomputable def pX12_root_L6   : Nat → Int32 → Int32 → Int32 → Int32
  | 0 => fun _ _ _ => (0)
  | n + 1 => bX12_root_L6   (pX12_root_L6   n)
def kbX12_root_L6   (Q_6 : Int32 → Int32 → Int32 → Prop) (v0_6 : Int32) (v1_6 : Int32) (v2_6 : Int32) : Prop := if v2_6 ≤ v1_6 then (True) else (lt (((v1_6 + v2_6) + 1) / 2) fun (x2 : Int32) => if v0_6 < (x2 * x2) then (lt (x2 - 1) fun (x4 : Int32) => Q_6 v0_6 v1_6 x4) else (Q_6 v0_6 x2 v2_6))
noncomputable def kX12_root_L6   : Nat → Int32 → Int32 → Int32 → Prop
  | 0 => fun _ _ _ => False
  | n + 1 => kbX12_root_L6   (kX12_root_L6   n)
noncomputable def pX12_root (a1 : Int32) : Int32 := pX12_root_L6 fu a1 0 30000
def kX12_root (a1 : Int32) : Prop := kX12_root_L6 fu a1 0 30000
abbrev rX12_root : Room := { frames := 0, cells := 0, slots := 0, locals := 0 }
set_option maxHeartbeats 4000000 in
set_option maxRecDepth 100000 in
theorem mX12_root (l : Launch) (dC : Nat → ClassId) (dI : Nat → Nat → Nat) (cI cB cO cL : ClassId)  (a1 : Int32) (hok : kX12_root a1) : Met l yX12_root wsX12_root rX12_root (gP (dC, dI) (tYS cI cB cO cL) ([]) [.int a1]) (gRi (pX12_root a1)) 0 0 (fun _ => False) := by
  refine gMet (cc := cX12_root) (maxL := 4) (ret := some .int) [(0, .int a1)] (by decide) rfl rfl rfl ?_
  intro p e s mi below meth c C0 hK hP ls hl
  obtain ⟨hx, hb, hr, hml, hown, hts, hlocks⟩ := id C0
  have hown : s.vm.findClass RX12 = some mi.cls := hown
  obtain ⟨F, hF⟩ : ∃ F, F = pX12_root a1 := ⟨_, rfl⟩
  have hf := hF
  have J_6 : ∀ (n_6 : Nat) (v0_6 : Int32) (v1_6 : Int32) (v2_6 : Int32), ∀ ls : Array Slot, lv_has ls 4 [(0, .int v0_6), (1, .int v1_6), (2, .int v2_6)] → F = pX12_root_L6 n_6 v0_6 v1_6 v2_6 → kX12_root_L6 n_6 v0_6 v1_6 v2_6 → W p l e rX12_root s mi ([.int a1] : List Value).toArray below meth c s.heap [] 0 0 (MQ below (gRi (pX12_root a1)) ([.int a1] : List Value).toArray s 0 0 (fun _ => False)) (F0 mi 6 ls []) := by
    intro n_6
    induction n_6 with
    | zero =>
      intro v0_6 v1_6 v2_6 ls hl hf hok
      exact absurd hok (fun h => h)
    | succ n_6 ih_6 =>
      intro v0_6 v1_6 v2_6 ls hl hf hok
      have hf : F = bX12_root_L6 (pX12_root_L6 n_6) v0_6 v1_6 v2_6 := hf
      have hok : kbX12_root_L6 (kX12_root_L6 n_6) v0_6 v1_6 v2_6 := hok
      refine lv_iload_n hx hb dX12_root_6 rfl (lv_at hl 1 rfl) ?_
      refine lv_iload_n hx hb dX12_root_7 rfl (lv_at hl 2 rfl) ?_
      refine lv_icmp_ge (tgt := 38) hx hb dX12_root_8 (by decide) (fun c1 => ?_) (fun c1 => ?_)
      · have hf := it_eq c1 hf
        refine lv_iload_n hx hb dX12_root_38 rfl (lv_at hl 1 rfl) ?_
        exact e_ri C0 (hf.symm.trans hF) dX12_root_39
      · have hf := ie_eq c1 hf
        have hok := ie_ok c1 hok
        refine lv_iload_n hx hb dX12_root_11 rfl (lv_at hl 1 rfl) ?_
        refine lv_iload_n hx hb dX12_root_12 rfl (lv_at hl 2 rfl) ?_
        refine lv_iadd hx hb dX12_root_13 ?_
        refine lv_iconst (v := 1) hx hb dX12_root_14 (by decide) ?_
        refine lv_iadd hx hb dX12_root_15 ?_
        refine lv_iconst (v := 2) hx hb dX12_root_16 (by decide) ?_
        refine lv_idiv hx hb dX12_root_17 (by decide) ?_
        refine lv_topi (fun x2 ex2 => ?_)
        have hf := lt_eq ex2 hf
        have hok := lt_ok ex2 hok
        refine lv_istore_n (lv' := [(3, .int x2), (0, .int v0_6), (1, .int v1_6), (2, .int v2_6)]) hx hb dX12_root_18 rfl hl (by decide) rfl (fun ls hl => ?_)
        refine lv_iload_n hx hb dX12_root_19 rfl (lv_at hl 0 rfl) ?_
        refine lv_iload_n hx hb dX12_root_20 rfl (lv_at hl 0 rfl) ?_
        refine lv_imul hx hb dX12_root_21 ?_
        refine lv_iload_n hx hb dX12_root_22 rfl (lv_at hl 1 rfl) ?_
        refine lv_icmp_gt (tgt := 31) hx hb dX12_root_23 (by decide) (fun c3 => ?_) (fun c3 => ?_)
        · have hf := it_eq c3 hf
          have hok := it_ok c3 hok
          refine lv_iload_n hx hb dX12_root_31 rfl (lv_at hl 0 rfl) ?_
          refine lv_iconst (v := 1) hx hb dX12_root_32 (by decide) ?_
          refine lv_isub hx hb dX12_root_33 ?_
          refine lv_topi (fun x4 ex4 => ?_)
          have hf := lt_eq ex4 hf
          have hok := lt_ok ex4 hok
          refine lv_istore_n (lv' := [(2, .int x4), (3, .int x2), (0, .int v0_6), (1, .int v1_6)]) hx hb dX12_root_34 rfl hl (by decide) rfl (fun ls hl => ?_)
          refine lv_goto (tgt := 6) hx hb dX12_root_35 (by decide) ?_
          exact ih_6 v0_6 v1_6 x4 _ (lv_sub hl [2, 3, 0] rfl) hf hok
        · have hf := ie_eq c3 hf
          have hok := ie_ok c3 hok
          refine lv_iload_n hx hb dX12_root_26 rfl (lv_at hl 0 rfl) ?_
          refine lv_istore_n (lv' := [(1, .int x2), (3, .int x2), (0, .int v0_6), (2, .int v2_6)]) hx hb dX12_root_27 rfl hl (by decide) rfl (fun ls hl => ?_)
          refine lv_goto (tgt := 35) hx hb dX12_root_28 (by decide) ?_
          refine lv_goto (tgt := 6) hx hb dX12_root_35 (by decide) ?_
          exact ih_6 v0_6 x2 v2_6 _ (lv_sub hl [2, 0, 3] rfl) hf hok
  refine lv_iconst (v := 0) hx hb dX12_root_0 (by decide) ?_
  refine lv_istore_n (lv' := [(1, .int 0), (0, .int a1)]) hx hb dX12_root_1 rfl hl (by decide) rfl (fun ls hl => ?_)
  refine lv_sipush (v := 30000) hx hb dX12_root_2 (by decide) ?_
  refine lv_istore_n (lv' := [(2, .int 30000), (1, .int 0), (0, .int a1)]) hx hb dX12_root_5 rfl hl (by decide) rfl (fun ls hl => ?_)
  exact J_6 fu a1 0 30000 _ (lv_sub hl [2, 1, 0] rfl) hf hok
noncomputable def pX12_wayTo (m : MS) (a1 : Int32) (a2 : Int32) (a3 : Int32) : Int32 := lt (a1 - (pX12_of m a3 0)) fun (x2 : Int32) => lt (a2 - (pX12_of m a3 1)) fun (x4 : Int32) => pX12_root ((x2 * x2) + (x4 * x4))
def kX12_wayTo (m : MS) (a1 : Int32) (a2 : Int32) (a3 : Int32) : Prop := (kX12_of m a3 0) ∧ (lt (a1 - (pX12_of m a3 0)) fun (x2 : Int32) => (kX12_of m a3 1) ∧ (lt (a2 - (pX12_of m a3 1)) fun (x4 : Int32) => kX12_root ((x2 * x2) + (x4 * x4))))
abbrev rX12_wayTo : Room := { frames := 1, cells := 0, slots := 0, locals := 23 }
set_option maxHeartbeats 4000000 in
set_option maxRecDepth 100000 in
theorem mX12_wayTo (l : Launch) (dC : Nat → ClassId) (dI : Nat → Nat → Nat) (cI cB cO cL : ClassId) (q : Nat → Nat) (m : MS) (a1 : Int32) (a2 : Int32) (a3 : Int32) (hok : kX12_wayTo m a1 a2 a3) : Met l yX12_wayTo wsX12_wayTo rX12_wayTo (gP (dC, dI) (tYS cI cB cO cL) (mw q cI m) [.ref (q 0), .int a1, .int a2, .int a3]) (gRi (pX12_wayTo m a1 a2 a3)) 0 0 (fun _ => False) := by
  refine gMet (cc := cX12_wayTo) (maxL := 6) (ret := some .int) [(0, .ref (q 0)), (1, .int a1), (2, .int a2), (3, .int a3)] (by decide) rfl rfl rfl ?_
  intro p e s mi below meth c C0 hK hP ls hl
  obtain ⟨hx, hb, hr, hml, hown, hts, hlocks⟩ := id C0
  have hown : s.vm.findClass RX12 = some mi.cls := hown
  obtain ⟨F, hF⟩ : ∃ F, F = pX12_wayTo m a1 a2 a3 := ⟨_, rfl⟩
  have hf := hF
  refine lv_iload_n hx hb dX12_wayTo_0 rfl (lv_at hl 1 rfl) ?_
  refine lv_aload_n hx hb dX12_wayTo_1 rfl (lv_at hl 0 rfl) ?_
  refine lv_iload_n hx hb dX12_wayTo_2 rfl (lv_at hl 3 rfl) ?_
  refine lv_iconst (v := 0) hx hb dX12_wayTo_3 (by decide) ?_
  obtain ⟨h1, hok⟩ := hok
  refine gro_i (va_runV (As := [.int a3, .int 0]) (rest := [.int a1]) ⟨hx, hb, hml, hown, hts⟩ (mX12_of l dC dI cI cB cO cL q m a3 0  h1) (cwV 2 hts gX12_wayTo_X12_of rfl rfl rfl (by decide +kernel) ⟨Nat.le_of_ble_eq_true rfl, Nat.le_of_ble_eq_true rfl⟩) ⟨gP_blind, va_recv hK hP (ci := 9) (q0 := 0) rfl rfl, gP_ok hP hK⟩ rfl rfl hl.1 rfl (lv_room (Nat.le_of_ble_eq_true rfl)) dX12_wayTo_4 ⟨Nat.zero_le _, Nat.zero_le _⟩) ?_
  refine lv_isub hx hb dX12_wayTo_7 ?_
  refine lv_topi (fun x2 ex2 => ?_)
  have hf := lt_eq ex2 hf
  have hok := lt_ok ex2 hok
  refine lv_istore (lv' := [(4, .int x2), (0, .ref (q 0)), (1, .int a1), (2, .int a2), (3, .int a3)]) hx hb dX12_wayTo_8 hl (by decide) rfl (fun ls hl => ?_)
  refine lv_iload_n hx hb dX12_wayTo_10 rfl (lv_at hl 3 rfl) ?_
  refine lv_aload_n hx hb dX12_wayTo_11 rfl (lv_at hl 1 rfl) ?_
  refine lv_iload_n hx hb dX12_wayTo_12 rfl (lv_at hl 4 rfl) ?_
  refine lv_iconst (v := 1) hx hb dX12_wayTo_13 (by decide) ?_
  obtain ⟨h3, hok⟩ := hok
  refine gro_i (va_runV (As := [.int a3, .int 1]) (rest := [.int a2]) ⟨hx, hb, hml, hown, hts⟩ (mX12_of l dC dI cI cB cO cL q m a3 1  h3) (cwV 2 hts gX12_wayTo_X12_of rfl rfl rfl (by decide +kernel) ⟨Nat.le_of_ble_eq_true rfl, Nat.le_of_ble_eq_true rfl⟩) ⟨gP_blind, va_recv hK hP (ci := 9) (q0 := 0) rfl rfl, gP_ok hP hK⟩ rfl rfl hl.1 rfl (lv_room (Nat.le_of_ble_eq_true rfl)) dX12_wayTo_14 ⟨Nat.zero_le _, Nat.zero_le _⟩) ?_
  refine lv_isub hx hb dX12_wayTo_17 ?_
  refine lv_topi (fun x4 ex4 => ?_)
  have hf := lt_eq ex4 hf
  have hok := lt_ok ex4 hok
  refine lv_istore (lv' := [(5, .int x4), (4, .int x2), (0, .ref (q 0)), (1, .int a1), (2, .int a2), (3, .int a3)]) hx hb dX12_wayTo_18 hl (by decide) rfl (fun ls hl => ?_)
  refine lv_iload hx hb dX12_wayTo_20 (lv_at hl 1 rfl) ?_
  refine lv_iload hx hb dX12_wayTo_22 (lv_at hl 1 rfl) ?_
  refine lv_imul hx hb dX12_wayTo_24 ?_
  refine lv_iload hx hb dX12_wayTo_25 (lv_at hl 0 rfl) ?_
  refine lv_iload hx hb dX12_wayTo_27 (lv_at hl 0 rfl) ?_
  refine lv_imul hx hb dX12_wayTo_29 ?_
  refine lv_iadd hx hb dX12_wayTo_30 ?_
  have h5 : kX12_root ((x2 * x2) + (x4 * x4)) := hok
  refine gro_i (va_runS (As := [.int ((x2 * x2) + (x4 * x4))]) (rest := []) ⟨hx, hb, hml, hown, hts⟩ (mX12_root l dC dI cI cB cO cL  ((x2 * x2) + (x4 * x4))  h5) (va_cwS 1 hts gX12_wayTo_X12_root rfl rfl rfl (by decide +kernel) ⟨Nat.le_of_ble_eq_true rfl, Nat.le_of_ble_eq_true rfl⟩) ⟨gP_blind, gP_ok va_P_nil hK⟩ rfl rfl hl.1 rfl (lv_room (Nat.le_of_ble_eq_true rfl)) dX12_wayTo_31 ⟨Nat.zero_le _, Nat.zero_le _⟩) ?_
  exact e_ri C0 (hf.symm.trans hF) dX12_wayTo_34
noncomputable def pX12_timeOf (m : MS) (a1 : Int32) : Int32 := (a1 * 1000) / ((m.2.2 0) 7)
def kX12_timeOf (m : MS) (a1 : Int32) : Prop := ¬ ((m.2.2 0) 7) = 0
abbrev rX12_timeOf : Room := { frames := 0, cells := 0, slots := 0, locals := 0 }
set_option maxHeartbeats 4000000 in
set_option maxRecDepth 100000 in
theorem mX12_timeOf (l : Launch) (dC : Nat → ClassId) (dI : Nat → Nat → Nat) (cI cB cO cL : ClassId) (q : Nat → Nat) (m : MS) (a1 : Int32) (hok : kX12_timeOf m a1) : Met l yX12_timeOf wsX12_timeOf rX12_timeOf (gP (dC, dI) (tYS cI cB cO cL) (mw q cI m) [.ref (q 0), .int a1]) (gRi (pX12_timeOf m a1)) 0 0 (fun _ => False) := by
  refine gMet (cc := cX12_timeOf) (maxL := 2) (ret := some .int) [(0, .ref (q 0)), (1, .int a1)] (by decide) rfl rfl rfl ?_
  intro p e s mi below meth c C0 hK hP ls hl
  obtain ⟨hx, hb, hr, hml, hown, hts, hlocks⟩ := id C0
  have hown : s.vm.findClass RX12 = some mi.cls := hown
  obtain ⟨F, hF⟩ : ∃ F, F = pX12_timeOf m a1 := ⟨_, rfl⟩
  have hf := hF
  have hin12 : ∀ w ∈ u_ws RX12 TX12 23, w ∈ wsX12_timeOf := by decide +kernel
  have fl7 := hts (.fieldLink RX12 7 "ClickBenchModel" "s" "[I") (by decide +kernel)
  refine lv_iload_n hx hb dX12_timeOf_0 rfl (lv_at hl 1 rfl) ?_
  refine lv_sipush (v := 1000) hx hb dX12_timeOf_1 (by decide) ?_
  refine lv_imul hx hb dX12_timeOf_4 ?_
  refine lv_aload_n hx hb dX12_timeOf_5 rfl (lv_at hl 0 rfl) ?_
  refine va_get (D := (dC, dI)) (ci := 9) (v := .ref (q 1)) (C := RX12) (T := TX12) (N := 23) hx hb hts hin12 hown hK hP 0 rfl rfl 0 (by decide) fl7 (fun _ h9 => h9) rfl dX12_timeOf_6 ?_
  refine lv_bipush (v := 7) hx hb dX12_timeOf_9 (by decide) ?_
  refine g_ialdK (D := (dC, dI)) (tys := (tYS cI cB cO cL)) (k := 7) hx hb hK hP 1 0 rfl rfl (by decide) (by decide) (by decide) dX12_timeOf_11 ?_
  have h1 : ¬ ((m.2.2 0) 7) = 0 := hok
  refine lv_idiv hx hb dX12_timeOf_12 h1 ?_
  exact e_ri C0 (hf.symm.trans hF) dX12_timeOf_13
noncomputable def pX12_takes_L92    : Bool := false
noncomputable def pX12_takes_L24   (v0_24 : Int32) (v1_24 : Int32) (v2_24 : Int32) (v3_24 : Int32) (v4_24 : Int32) (v5_24 : Int32) (v6_24 : Int32) : Bool := lt ((v5_24 - v3_24).toInt64) fun (x4 : Int64) => lt ((v4_24.toInt64 * x4) + (((v0_24 - v3_24).toInt64) * ((v6_24 - v4_24).toInt64))) fun (x5 : Int64) => lt (v1_24.toInt64 * x4) fun (x6 : Int64) => lt (v2_24.toInt64 * x4) fun (x7 : Int64) => if x4 ≤ 0 then (if x6 < x5 then (false) else (if x5 < x7 then (false) else (true))) else (if x5 < x6 then (pX12_takes_L92) else (if x7 < x5 then (pX12_takes_L92) else (true)))
noncomputable def pX12_takes_L11   (v0_11 : Int32) (v1_11 : Int32) (v2_11 : Int32) (v3_11 : Int32) (v4_11 : Int32) (v5_11 : Int32) (v6_11 : Int32) : Bool := if v3_11 ≤ v0_11 then (false) else (if v5_11 < v0_11 then (pX12_takes_L24 v0_11 v1_11 v2_11 v3_11 v4_11 v5_11 v6_11) else (false))
noncomputable def pX12_takes (a1 : Int32) (a2 : Int32) (a3 : Int32) (a4 : Int32) (a5 : Int32) (a6 : Int32) (a7 : Int32) : Bool := if a1 ≤ a4 then (pX12_takes_L11 a1 a2 a3 a4 a5 a6 a7) else (if a1 < a6 then (pX12_takes_L24 a1 a2 a3 a4 a5 a6 a7) else (pX12_takes_L11 a1 a2 a3 a4 a5 a6 a7))
abbrev rX12_takes : Room := { frames := 0, cells := 0, slots := 0, locals := 0 }
set_option maxHeartbeats 4000000 in
set_option maxRecDepth 100000 in
theorem mX12_takes (l : Launch) (dC : Nat → ClassId) (dI : Nat → Nat → Nat) (cI cB cO cL : ClassId)  (a1 : Int32) (a2 : Int32) (a3 : Int32) (a4 : Int32) (a5 : Int32) (a6 : Int32) (a7 : Int32) : Met l yX12_takes wsX12_takes rX12_takes (gP (dC, dI) (tYS cI cB cO cL) ([]) [.int a1, .int a2, .int a3, .int a4, .int a5, .int a6, .int a7]) (gRz (pX12_takes a1 a2 a3 a4 a5 a6 a7)) 0 0 (fun _ => False) := by
  refine gMet (cc := cX12_takes) (maxL := 15) (ret := some .boolean) [(0, .int a1), (1, .int a2), (2, .int a3), (3, .int a4), (4, .int a5), (5, .int a6), (6, .int a7)] (by decide) rfl rfl rfl ?_
  intro p e s mi below meth c C0 hK hP ls hl
  obtain ⟨hx, hb, hr, hml, hown, hts, hlocks⟩ := id C0
  have hown : s.vm.findClass RX12 = some mi.cls := hown
  obtain ⟨F, hF⟩ : ∃ F, F = pX12_takes a1 a2 a3 a4 a5 a6 a7 := ⟨_, rfl⟩
  have hf := hF
  have J_92 :  ∀ ls : Array Slot, lv_has ls 15 [] → F = pX12_takes_L92 → W p l e rX12_takes s mi ([.int a1, .int a2, .int a3, .int a4, .int a5, .int a6, .int a7] : List Value).toArray below meth c s.heap [] 0 0 (MQ below (gRz (pX12_takes a1 a2 a3 a4 a5 a6 a7)) ([.int a1, .int a2, .int a3, .int a4, .int a5, .int a6, .int a7] : List Value).toArray s 0 0 (fun _ => False)) (F0 mi 92 ls []) := by
    intro ls hl hf
    refine lv_iconst (v := 0) hx hb dX12_takes_92 (by decide) ?_
    refine lv_goto (tgt := 117) hx hb dX12_takes_93 (by decide) ?_
    exact e_rz C0 (b := false) rfl (hf.symm.trans hF) dX12_takes_117
  have J_24 : ∀ (v0_24 : Int32) (v1_24 : Int32) (v2_24 : Int32) (v3_24 : Int32) (v4_24 : Int32) (v5_24 : Int32) (v6_24 : Int32), ∀ ls : Array Slot, lv_has ls 15 [(0, .int v0_24), (1, .int v1_24), (2, .int v2_24), (3, .int v3_24), (4, .int v4_24), (5, .int v5_24), (6, .int v6_24)] → F = pX12_takes_L24 v0_24 v1_24 v2_24 v3_24 v4_24 v5_24 v6_24 → W p l e rX12_takes s mi ([.int a1, .int a2, .int a3, .int a4, .int a5, .int a6, .int a7] : List Value).toArray below meth c s.heap [] 0 0 (MQ below (gRz (pX12_takes a1 a2 a3 a4 a5 a6 a7)) ([.int a1, .int a2, .int a3, .int a4, .int a5, .int a6, .int a7] : List Value).toArray s 0 0 (fun _ => False)) (F0 mi 24 ls []) := by
    intro v0_24 v1_24 v2_24 v3_24 v4_24 v5_24 v6_24 ls hl hf
    refine lv_iload hx hb dX12_takes_24 (lv_at hl 5 rfl) ?_
    refine lv_iload_n hx hb dX12_takes_26 rfl (lv_at hl 3 rfl) ?_
    refine lv_isub hx hb dX12_takes_27 ?_
    refine lv_i2l hx hb dX12_takes_28 rfl ?_
    refine lv_topl (fun x4 ex4 => ?_)
    have hf := lt_eq ex4 hf
    refine lv_lstore (lv' := [(7, .long x4), (0, .int v0_24), (1, .int v1_24), (2, .int v2_24), (3, .int v3_24), (4, .int v4_24), (5, .int v5_24), (6, .int v6_24)]) hx hb dX12_takes_29 hl (by decide) rfl (fun ls hl => ?_)
    refine lv_iload hx hb dX12_takes_31 (lv_at hl 5 rfl) ?_
    refine lv_i2l hx hb dX12_takes_33 rfl ?_
    refine lv_lload hx hb dX12_takes_34 (lv_at hl 0 rfl) ?_
    refine lv_lmul hx hb dX12_takes_36 ?_
    refine lv_iload_n hx hb dX12_takes_37 rfl (lv_at hl 1 rfl) ?_
    refine lv_iload_n hx hb dX12_takes_38 rfl (lv_at hl 4 rfl) ?_
    refine lv_isub hx hb dX12_takes_39 ?_
    refine lv_i2l hx hb dX12_takes_40 rfl ?_
    refine lv_iload hx hb dX12_takes_41 (lv_at hl 7 rfl) ?_
    refine lv_iload hx hb dX12_takes_43 (lv_at hl 5 rfl) ?_
    refine lv_isub hx hb dX12_takes_45 ?_
    refine lv_i2l hx hb dX12_takes_46 rfl ?_
    refine lv_lmul hx hb dX12_takes_47 ?_
    refine lv_ladd hx hb dX12_takes_48 ?_
    refine lv_topl (fun x5 ex5 => ?_)
    have hf := lt_eq ex5 hf
    refine lv_lstore (lv' := [(9, .long x5), (7, .long x4), (0, .int v0_24), (1, .int v1_24), (2, .int v2_24), (3, .int v3_24), (4, .int v4_24), (5, .int v5_24), (6, .int v6_24)]) hx hb dX12_takes_49 hl (by decide) rfl (fun ls hl => ?_)
    refine lv_iload_n hx hb dX12_takes_51 rfl (lv_at hl 3 rfl) ?_
    refine lv_i2l hx hb dX12_takes_52 rfl ?_
    refine lv_lload hx hb dX12_takes_53 (lv_at hl 1 rfl) ?_
    refine lv_lmul hx hb dX12_takes_55 ?_
    refine lv_topl (fun x6 ex6 => ?_)
    have hf := lt_eq ex6 hf
    refine lv_lstore (lv' := [(11, .long x6), (9, .long x5), (7, .long x4), (0, .int v0_24), (1, .int v1_24), (2, .int v2_24), (3, .int v3_24), (4, .int v4_24), (5, .int v5_24), (6, .int v6_24)]) hx hb dX12_takes_56 hl (by decide) rfl (fun ls hl => ?_)
    refine lv_iload_n hx hb dX12_takes_58 rfl (lv_at hl 5 rfl) ?_
    refine lv_i2l hx hb dX12_takes_59 rfl ?_
    refine lv_lload hx hb dX12_takes_60 (lv_at hl 2 rfl) ?_
    refine lv_lmul hx hb dX12_takes_62 ?_
    refine lv_topl (fun x7 ex7 => ?_)
    have hf := lt_eq ex7 hf
    refine lv_lstore (lv' := [(13, .long x7), (11, .long x6), (9, .long x5), (7, .long x4), (0, .int v0_24), (1, .int v1_24), (2, .int v2_24), (3, .int v3_24), (4, .int v4_24), (5, .int v5_24), (6, .int v6_24)]) hx hb dX12_takes_63 hl (by decide) rfl (fun ls hl => ?_)
    refine lv_lload hx hb dX12_takes_65 (lv_at hl 3 rfl) ?_
    refine lv_lconst (v := 0) hx hb dX12_takes_67 (by decide) ?_
    refine W.lcmp hx hb dX12_takes_68 ?_
    refine lv_if_le (tgt := 96) hx hb dX12_takes_69 (by decide) (fun c8 => ?_) (fun c8 => ?_)
    · have c8 := (lg_cmp_le _ _).mp c8
      have hf := it_eq c8 hf
      refine lv_lload hx hb dX12_takes_96 (lv_at hl 2 rfl) ?_
      refine lv_lload hx hb dX12_takes_98 (lv_at hl 1 rfl) ?_
      refine W.lcmp hx hb dX12_takes_100 ?_
      refine lv_if_gt (tgt := 116) hx hb dX12_takes_101 (by decide) (fun c9 => ?_) (fun c9 => ?_)
      · have c9 := (lg_cmp_gt _ _).mp c9
        have hf := it_eq c9 hf
        refine lv_iconst (v := 0) hx hb dX12_takes_116 (by decide) ?_
        exact e_rz C0 (b := false) rfl (hf.symm.trans hF) dX12_takes_117
      · have c9 := fun h => c9 ((lg_cmp_gt _ _).mpr h)
        have hf := ie_eq c9 hf
        refine lv_lload hx hb dX12_takes_104 (lv_at hl 2 rfl) ?_
        refine lv_lload hx hb dX12_takes_106 (lv_at hl 0 rfl) ?_
        refine W.lcmp hx hb dX12_takes_108 ?_
        refine lv_if_lt (tgt := 116) hx hb dX12_takes_109 (by decide) (fun c10 => ?_) (fun c10 => ?_)
        · have c10 := (lg_cmp_lt _ _).mp c10
          have hf := it_eq c10 hf
          refine lv_iconst (v := 0) hx hb dX12_takes_116 (by decide) ?_
          exact e_rz C0 (b := false) rfl (hf.symm.trans hF) dX12_takes_117
        · have c10 := fun h => c10 ((lg_cmp_lt _ _).mpr h)
          have hf := ie_eq c10 hf
          refine lv_iconst (v := 1) hx hb dX12_takes_112 (by decide) ?_
          refine lv_goto (tgt := 117) hx hb dX12_takes_113 (by decide) ?_
          exact e_rz C0 (b := true) rfl (hf.symm.trans hF) dX12_takes_117
    · have c8 := fun h => c8 ((lg_cmp_le _ _).mpr h)
      have hf := ie_eq c8 hf
      refine lv_lload hx hb dX12_takes_72 (lv_at hl 2 rfl) ?_
      refine lv_lload hx hb dX12_takes_74 (lv_at hl 1 rfl) ?_
      refine W.lcmp hx hb dX12_takes_76 ?_
      refine lv_if_lt (tgt := 92) hx hb dX12_takes_77 (by decide) (fun c11 => ?_) (fun c11 => ?_)
      · have c11 := (lg_cmp_lt _ _).mp c11
        have hf := it_eq c11 hf
        exact J_92 _ (lv_sub hl [] rfl) hf
      · have c11 := fun h => c11 ((lg_cmp_lt _ _).mpr h)
        have hf := ie_eq c11 hf
        refine lv_lload hx hb dX12_takes_80 (lv_at hl 2 rfl) ?_
        refine lv_lload hx hb dX12_takes_82 (lv_at hl 0 rfl) ?_
        refine W.lcmp hx hb dX12_takes_84 ?_
        refine lv_if_gt (tgt := 92) hx hb dX12_takes_85 (by decide) (fun c12 => ?_) (fun c12 => ?_)
        · have c12 := (lg_cmp_gt _ _).mp c12
          have hf := it_eq c12 hf
          exact J_92 _ (lv_sub hl [] rfl) hf
        · have c12 := fun h => c12 ((lg_cmp_gt _ _).mpr h)
          have hf := ie_eq c12 hf
          refine lv_iconst (v := 1) hx hb dX12_takes_88 (by decide) ?_
          refine lv_goto (tgt := 117) hx hb dX12_takes_89 (by decide) ?_
          exact e_rz C0 (b := true) rfl (hf.symm.trans hF) dX12_takes_117
  have J_11 : ∀ (v0_11 : Int32) (v1_11 : Int32) (v2_11 : Int32) (v3_11 : Int32) (v4_11 : Int32) (v5_11 : Int32) (v6_11 : Int32), ∀ ls : Array Slot, lv_has ls 15 [(0, .int v0_11), (1, .int v1_11), (2, .int v2_11), (3, .int v3_11), (4, .int v4_11), (5, .int v5_11), (6, .int v6_11)] → F = pX12_takes_L11 v0_11 v1_11 v2_11 v3_11 v4_11 v5_11 v6_11 → W p l e rX12_takes s mi ([.int a1, .int a2, .int a3, .int a4, .int a5, .int a6, .int a7] : List Value).toArray below meth c s.heap [] 0 0 (MQ below (gRz (pX12_takes a1 a2 a3 a4 a5 a6 a7)) ([.int a1, .int a2, .int a3, .int a4, .int a5, .int a6, .int a7] : List Value).toArray s 0 0 (fun _ => False)) (F0 mi 11 ls []) := by
    intro v0_11 v1_11 v2_11 v3_11 v4_11 v5_11 v6_11 ls hl hf
    refine lv_iload_n hx hb dX12_takes_11 rfl (lv_at hl 3 rfl) ?_
    refine lv_iload_n hx hb dX12_takes_12 rfl (lv_at hl 0 rfl) ?_
    refine lv_icmp_le (tgt := 22) hx hb dX12_takes_13 (by decide) (fun c2 => ?_) (fun c2 => ?_)
    · have hf := it_eq c2 hf
      refine lv_iconst (v := 0) hx hb dX12_takes_22 (by decide) ?_
      exact e_rz C0 (b := false) rfl (hf.symm.trans hF) dX12_takes_23
    · have hf := ie_eq c2 hf
      refine lv_iload hx hb dX12_takes_16 (lv_at hl 5 rfl) ?_
      refine lv_iload_n hx hb dX12_takes_18 rfl (lv_at hl 0 rfl) ?_
      refine lv_icmp_lt (tgt := 24) hx hb dX12_takes_19 (by decide) (fun c3 => ?_) (fun c3 => ?_)
      · have hf := it_eq c3 hf
        exact J_24 v0_11 v1_11 v2_11 v3_11 v4_11 v5_11 v6_11 _ (lv_sub hl [0, 1, 2, 3, 4, 5, 6] rfl) hf
      · have hf := ie_eq c3 hf
        refine lv_iconst (v := 0) hx hb dX12_takes_22 (by decide) ?_
        exact e_rz C0 (b := false) rfl (hf.symm.trans hF) dX12_takes_23
  refine lv_iload_n hx hb dX12_takes_0 rfl (lv_at hl 3 rfl) ?_
  refine lv_iload_n hx hb dX12_takes_1 rfl (lv_at hl 0 rfl) ?_
  refine lv_icmp_ge (tgt := 11) hx hb dX12_takes_2 (by decide) (fun c1 => ?_) (fun c1 => ?_)
  · have hf := it_eq c1 hf
    exact J_11 a1 a2 a3 a4 a5 a6 a7 _ (lv_sub hl [0, 1, 2, 3, 4, 5, 6] rfl) hf
  · have hf := ie_eq c1 hf
    refine lv_iload hx hb dX12_takes_5 (lv_at hl 5 rfl) ?_
    refine lv_iload_n hx hb dX12_takes_7 rfl (lv_at hl 0 rfl) ?_
    refine lv_icmp_gt (tgt := 24) hx hb dX12_takes_8 (by decide) (fun c13 => ?_) (fun c13 => ?_)
    · have hf := it_eq c13 hf
      exact J_24 a1 a2 a3 a4 a5 a6 a7 _ (lv_sub hl [0, 1, 2, 3, 4, 5, 6] rfl) hf
    · have hf := ie_eq c13 hf
      exact J_11 a1 a2 a3 a4 a5 a6 a7 _ (lv_sub hl [0, 1, 2, 3, 4, 5, 6] rfl) hf
noncomputable def pX12_isTaken_L147 (m : MS) (q_6 : Int32 → Int32 → Int32 → Bool → Int32 → Bool) (v1_147 : Int32) (v2_147 : Int32) (v3_147 : Int32) (v5_147 : Int32) (t0_147 : Bool) : Bool := lt (v5_147 + 1) fun (x9 : Int32) => q_6 v1_147 v2_147 v3_147 t0_147 x9
def kX12_isTaken_L147 (m : MS) (Q_6 : Int32 → Int32 → Int32 → Bool → Int32 → Prop) (v1_147 : Int32) (v2_147 : Int32) (v3_147 : Int32) (v5_147 : Int32) (t0_147 : Bool) : Prop := lt (v5_147 + 1) fun (x9 : Int32) => Q_6 v1_147 v2_147 v3_147 t0_147 x9
noncomputable def pX12_isTaken_L142 (m : MS) (q_6 : Int32 → Int32 → Int32 → Bool → Int32 → Bool) (v1_142 : Int32) (v2_142 : Int32) (v3_142 : Int32) (v5_142 : Int32) : Bool := pX12_isTaken_L147 m q_6 v1_142 v2_142 v3_142 v5_142 true
def kX12_isTaken_L142 (m : MS) (Q_6 : Int32 → Int32 → Int32 → Bool → Int32 → Prop) (v1_142 : Int32) (v2_142 : Int32) (v3_142 : Int32) (v5_142 : Int32) : Prop := kX12_isTaken_L147 m Q_6 v1_142 v2_142 v3_142 v5_142 true
noncomputable def pX12_isTaken_L136 (m : MS) (q_6 : Int32 → Int32 → Int32 → Bool → Int32 → Bool) (v1_136 : Int32) (v2_136 : Int32) (v3_136 : Int32) (v5_136 : Int32) (t0_136 : Int32) (t1_136 : Int32) (t2_136 : Int32) (t3_136 : Int32) (t4_136 : Int32) (t5_136 : Int32) (t6_136 : Int32) : Bool := if (pX12_takes t0_136 t1_136 t2_136 t3_136 t4_136 t5_136 t6_136) = true then (pX12_isTaken_L142 m q_6 v1_136 v2_136 v3_136 v5_136) else (pX12_isTaken_L147 m q_6 v1_136 v2_136 v3_136 v5_136 false)
def kX12_isTaken_L136 (m : MS) (Q_6 : Int32 → Int32 → Int32 → Bool → Int32 → Prop) (v1_136 : Int32) (v2_136 : Int32) (v3_136 : Int32) (v5_136 : Int32) (t0_136 : Int32) (t1_136 : Int32) (t2_136 : Int32) (t3_136 : Int32) (t4_136 : Int32) (t5_136 : Int32) (t6_136 : Int32) : Prop := if (pX12_takes t0_136 t1_136 t2_136 t3_136 t4_136 t5_136 t6_136) = true then (kX12_isTaken_L142 m Q_6 v1_136 v2_136 v3_136 v5_136) else (kX12_isTaken_L147 m Q_6 v1_136 v2_136 v3_136 v5_136 false)
noncomputable def pX12_isTaken_L124 (m : MS) (q_6 : Int32 → Int32 → Int32 → Bool → Int32 → Bool) (v1_124 : Int32) (v2_124 : Int32) (v3_124 : Int32) (v5_124 : Int32) (v7_124 : Bool) (v8_124 : Int32) (v9_124 : Int32) (t0_124 : Int32) (t1_124 : Int32) (t2_124 : Int32) (t3_124 : Int32) (t4_124 : Int32) (t5_124 : Int32) : Bool := if v7_124 = true then (pX12_isTaken_L136 m q_6 v1_124 v2_124 v3_124 v5_124 t0_124 t1_124 t2_124 t3_124 t4_124 t5_124 v8_124) else (pX12_isTaken_L136 m q_6 v1_124 v2_124 v3_124 v5_124 t0_124 t1_124 t2_124 t3_124 t4_124 t5_124 v9_124)
def kX12_isTaken_L124 (m : MS) (Q_6 : Int32 → Int32 → Int32 → Bool → Int32 → Prop) (v1_124 : Int32) (v2_124 : Int32) (v3_124 : Int32) (v5_124 : Int32) (v7_124 : Bool) (v8_124 : Int32) (v9_124 : Int32) (t0_124 : Int32) (t1_124 : Int32) (t2_124 : Int32) (t3_124 : Int32) (t4_124 : Int32) (t5_124 : Int32) : Prop := if v7_124 = true then (kX12_isTaken_L136 m Q_6 v1_124 v2_124 v3_124 v5_124 t0_124 t1_124 t2_124 t3_124 t4_124 t5_124 v8_124) else (kX12_isTaken_L136 m Q_6 v1_124 v2_124 v3_124 v5_124 t0_124 t1_124 t2_124 t3_124 t4_124 t5_124 v9_124)
noncomputable def pX12_isTaken_L112 (m : MS) (q_6 : Int32 → Int32 → Int32 → Bool → Int32 → Bool) (v1_112 : Int32) (v2_112 : Int32) (v3_112 : Int32) (v5_112 : Int32) (v7_112 : Bool) (v8_112 : Int32) (v9_112 : Int32) (t0_112 : Int32) (t1_112 : Int32) (t2_112 : Int32) (t3_112 : Int32) (t4_112 : Int32) : Bool := if v7_112 = true then (pX12_isTaken_L124 m q_6 v1_112 v2_112 v3_112 v5_112 v7_112 v8_112 v9_112 t0_112 t1_112 t2_112 t3_112 t4_112 v9_112) else (pX12_isTaken_L124 m q_6 v1_112 v2_112 v3_112 v5_112 v7_112 v8_112 v9_112 t0_112 t1_112 t2_112 t3_112 t4_112 v8_112)
def kX12_isTaken_L112 (m : MS) (Q_6 : Int32 → Int32 → Int32 → Bool → Int32 → Prop) (v1_112 : Int32) (v2_112 : Int32) (v3_112 : Int32) (v5_112 : Int32) (v7_112 : Bool) (v8_112 : Int32) (v9_112 : Int32) (t0_112 : Int32) (t1_112 : Int32) (t2_112 : Int32) (t3_112 : Int32) (t4_112 : Int32) : Prop := if v7_112 = true then (kX12_isTaken_L124 m Q_6 v1_112 v2_112 v3_112 v5_112 v7_112 v8_112 v9_112 t0_112 t1_112 t2_112 t3_112 t4_112 v9_112) else (kX12_isTaken_L124 m Q_6 v1_112 v2_112 v3_112 v5_112 v7_112 v8_112 v9_112 t0_112 t1_112 t2_112 t3_112 t4_112 v8_112)
noncomputable def pX12_isTaken_L102 (m : MS) (q_6 : Int32 → Int32 → Int32 → Bool → Int32 → Bool) (v1_102 : Int32) (v2_102 : Int32) (v3_102 : Int32) (v5_102 : Int32) (v7_102 : Bool) (v8_102 : Int32) (v9_102 : Int32) (t0_102 : Int32) (t1_102 : Int32) (t2_102 : Int32) (t3_102 : Int32) : Bool := if v7_102 = true then (pX12_isTaken_L112 m q_6 v1_102 v2_102 v3_102 v5_102 v7_102 v8_102 v9_102 t0_102 t1_102 t2_102 t3_102 v1_102) else (pX12_isTaken_L112 m q_6 v1_102 v2_102 v3_102 v5_102 v7_102 v8_102 v9_102 t0_102 t1_102 t2_102 t3_102 v2_102)
def kX12_isTaken_L102 (m : MS) (Q_6 : Int32 → Int32 → Int32 → Bool → Int32 → Prop) (v1_102 : Int32) (v2_102 : Int32) (v3_102 : Int32) (v5_102 : Int32) (v7_102 : Bool) (v8_102 : Int32) (v9_102 : Int32) (t0_102 : Int32) (t1_102 : Int32) (t2_102 : Int32) (t3_102 : Int32) : Prop := if v7_102 = true then (kX12_isTaken_L112 m Q_6 v1_102 v2_102 v3_102 v5_102 v7_102 v8_102 v9_102 t0_102 t1_102 t2_102 t3_102 v1_102) else (kX12_isTaken_L112 m Q_6 v1_102 v2_102 v3_102 v5_102 v7_102 v8_102 v9_102 t0_102 t1_102 t2_102 t3_102 v2_102)
noncomputable def pX12_isTaken_L42 (m : MS) (q_6 : Int32 → Int32 → Int32 → Bool → Int32 → Bool) (v1_42 : Int32) (v2_42 : Int32) (v3_42 : Int32) (v4_42 : Bool) (v5_42 : Int32) (v6_42 : Int32) (t0_42 : Bool) : Bool := lt (pX12_of m v3_42 0) fun (x5 : Int32) => lt (pX12_of m v3_42 1) fun (x7 : Int32) => if v4_42 = true then (pX12_isTaken_L142 m q_6 v1_42 v2_42 v3_42 v5_42) else (if t0_42 = true then (pX12_isTaken_L102 m q_6 v1_42 v2_42 v3_42 v5_42 t0_42 x5 x7 ((m.2.2 0) ((v6_42 + 1).toNatClampNeg)) ((m.2.2 0) ((v6_42 + 2).toNatClampNeg)) ((m.2.2 0) ((v6_42 + 3).toNatClampNeg)) v2_42) else (pX12_isTaken_L102 m q_6 v1_42 v2_42 v3_42 v5_42 t0_42 x5 x7 ((m.2.2 0) ((v6_42 + 1).toNatClampNeg)) ((m.2.2 0) ((v6_42 + 2).toNatClampNeg)) ((m.2.2 0) ((v6_42 + 3).toNatClampNeg)) v1_42))
def kX12_isTaken_L42 (m : MS) (Q_6 : Int32 → Int32 → Int32 → Bool → Int32 → Prop) (v1_42 : Int32) (v2_42 : Int32) (v3_42 : Int32) (v4_42 : Bool) (v5_42 : Int32) (v6_42 : Int32) (t0_42 : Bool) : Prop := (kX12_of m v3_42 0) ∧ (lt (pX12_of m v3_42 0) fun (x5 : Int32) => (kX12_of m v3_42 1) ∧ (lt (pX12_of m v3_42 1) fun (x7 : Int32) => if v4_42 = true then (kX12_isTaken_L142 m Q_6 v1_42 v2_42 v3_42 v5_42) else ((vp_in (v6_42 + 1) 122) ∧ ((vp_in (v6_42 + 2) 122) ∧ ((vp_in (v6_42 + 3) 122) ∧ (if t0_42 = true then (kX12_isTaken_L102 m Q_6 v1_42 v2_42 v3_42 v5_42 t0_42 x5 x7 ((m.2.2 0) ((v6_42 + 1).toNatClampNeg)) ((m.2.2 0) ((v6_42 + 2).toNatClampNeg)) ((m.2.2 0) ((v6_42 + 3).toNatClampNeg)) v2_42) else (kX12_isTaken_L102 m Q_6 v1_42 v2_42 v3_42 v5_42 t0_42 x5 x7 ((m.2.2 0) ((v6_42 + 1).toNatClampNeg)) ((m.2.2 0) ((v6_42 + 2).toNatClampNeg)) ((m.2.2 0) ((v6_42 + 3).toNatClampNeg)) v1_42)))))))
noncomputable def bX12_isTaken_L6 (m : MS)  (q_6 : Int32 → Int32 → Int32 → Bool → Int32 → Bool) (v1_6 : Int32) (v2_6 : Int32) (v3_6 : Int32) (v4_6 : Bool) (v5_6 : Int32) : Bool := if ((m.2.2 0) 4) ≤ v5_6 then (v4_6) else (lt (106 + (4 * v5_6)) fun (x2 : Int32) => if ((m.2.2 0) x2.toNatClampNeg) = 1 then (pX12_isTaken_L42 m q_6 v1_6 v2_6 v3_6 v4_6 v5_6 x2 true) else (pX12_isTaken_L42 m q_6 v1_6 v2_6 v3_6 v4_6 v5_6 x2 false))
noncomputable def pX12_isTaken_L6 (m : MS)  : Nat → Int32 → Int32 → Int32 → Bool → Int32 → Bool
  | 0 => fun _ _ _ _ _ => (false)
  | n + 1 => bX12_isTaken_L6 m  (pX12_isTaken_L6 m  n)
def kbX12_isTaken_L6 (m : MS)  (Q_6 : Int32 → Int32 → Int32 → Bool → Int32 → Prop) (v1_6 : Int32) (v2_6 : Int32) (v3_6 : Int32) (v4_6 : Bool) (v5_6 : Int32) : Prop := if ((m.2.2 0) 4) ≤ v5_6 then (True) else (lt (106 + (4 * v5_6)) fun (x2 : Int32) => (vp_in x2 122) ∧ (if ((m.2.2 0) x2.toNatClampNeg) = 1 then (kX12_isTaken_L42 m Q_6 v1_6 v2_6 v3_6 v4_6 v5_6 x2 true) else (kX12_isTaken_L42 m Q_6 v1_6 v2_6 v3_6 v4_6 v5_6 x2 false)))
noncomputable def kX12_isTaken_L6 (m : MS)  : Nat → Int32 → Int32 → Int32 → Bool → Int32 → Prop
  | 0 => fun _ _ _ _ _ => False
  | n + 1 => kbX12_isTaken_L6 m  (kX12_isTaken_L6 m  n)
noncomputable def pX12_isTaken (m : MS) (a1 : Int32) (a2 : Int32) (a3 : Int32) : Bool := pX12_isTaken_L6 m fu a1 a2 a3 false 0
def kX12_isTaken (m : MS) (a1 : Int32) (a2 : Int32) (a3 : Int32) : Prop := kX12_isTaken_L6 m fu a1 a2 a3 false 0
abbrev rX12_isTaken : Room := { frames := 1, cells := 0, slots := 0, locals := 34 }
set_option maxHeartbeats 4000000 in
set_option maxRecDepth 100000 in
theorem mX12_isTaken (l : Launch) (dC : Nat → ClassId) (dI : Nat → Nat → Nat) (cI cB cO cL : ClassId) (q : Nat → Nat) (m : MS) (a1 : Int32) (a2 : Int32) (a3 : Int32) (hok : kX12_isTaken m a1 a2 a3) : Met l yX12_isTaken wsX12_isTaken rX12_isTaken (gP (dC, dI) (tYS cI cB cO cL) (mw q cI m) [.ref (q 0), .int a1, .int a2, .int a3]) (gRz (pX12_isTaken m a1 a2 a3)) 0 0 (fun _ => False) := by
  refine gMet (cc := cX12_isTaken) (maxL := 10) (ret := some .boolean) [(0, .ref (q 0)), (1, .int a1), (2, .int a2), (3, .int a3)] (by decide) rfl rfl rfl ?_
  intro p e s mi below meth c C0 hK hP ls hl
  obtain ⟨hx, hb, hr, hml, hown, hts, hlocks⟩ := id C0
  have hown : s.vm.findClass RX12 = some mi.cls := hown
  obtain ⟨F, hF⟩ : ∃ F, F = pX12_isTaken m a1 a2 a3 := ⟨_, rfl⟩
  have hf := hF
  have hin12 : ∀ w ∈ u_ws RX12 TX12 23, w ∈ wsX12_isTaken := by decide +kernel
  have fl7 := hts (.fieldLink RX12 7 "ClickBenchModel" "s" "[I") (by decide +kernel)
  have J_6 : ∀ (n_6 : Nat) (v1_6 : Int32) (v2_6 : Int32) (v3_6 : Int32) (v4_6 : Bool) (v5_6 : Int32), ∀ ls : Array Slot, lv_has ls 10 [(0, .ref (q 0)), (1, .int v1_6), (2, .int v2_6), (3, .int v3_6), (4, .int (bz v4_6)), (5, .int v5_6)] → F = pX12_isTaken_L6 m n_6 v1_6 v2_6 v3_6 v4_6 v5_6 → kX12_isTaken_L6 m n_6 v1_6 v2_6 v3_6 v4_6 v5_6 → W p l e rX12_isTaken s mi ([.ref (q 0), .int a1, .int a2, .int a3] : List Value).toArray below meth c s.heap [] 0 0 (MQ below (gRz (pX12_isTaken m a1 a2 a3)) ([.ref (q 0), .int a1, .int a2, .int a3] : List Value).toArray s 0 0 (fun _ => False)) (F0 mi 6 ls []) := by
    intro n_6
    induction n_6 with
    | zero =>
      intro v1_6 v2_6 v3_6 v4_6 v5_6 ls hl hf hok
      exact absurd hok (fun h => h)
    | succ n_6 ih_6 =>
      have J_147 : ∀ (v1_147 : Int32) (v2_147 : Int32) (v3_147 : Int32) (v5_147 : Int32) (t0_147 : Bool), ∀ ls : Array Slot, lv_has ls 10 [(0, .ref (q 0)), (1, .int v1_147), (2, .int v2_147), (3, .int v3_147), (5, .int v5_147)] → F = pX12_isTaken_L147 m (pX12_isTaken_L6 m n_6) v1_147 v2_147 v3_147 v5_147 t0_147 → kX12_isTaken_L147 m (kX12_isTaken_L6 m n_6) v1_147 v2_147 v3_147 v5_147 t0_147 → W p l e rX12_isTaken s mi ([.ref (q 0), .int a1, .int a2, .int a3] : List Value).toArray below meth c s.heap [] 0 0 (MQ below (gRz (pX12_isTaken m a1 a2 a3)) ([.ref (q 0), .int a1, .int a2, .int a3] : List Value).toArray s 0 0 (fun _ => False)) (F0 mi 147 ls [.int (bz t0_147)]) := by
        intro v1_147 v2_147 v3_147 v5_147 t0_147 ls hl hf hok
        refine lv_istore (lv' := [(4, .int (bz t0_147)), (0, .ref (q 0)), (1, .int v1_147), (2, .int v2_147), (3, .int v3_147), (5, .int v5_147)]) hx hb dX12_isTaken_147 hl (by decide) rfl (fun ls hl => ?_)
        obtain ⟨x9, ex9⟩ : ∃ y : Int32, y = v5_147 + 1 := ⟨_, rfl⟩
        refine lv_iinc (v := x9) (lv' := [(5, .int x9), (4, .int (bz t0_147)), (0, .ref (q 0)), (1, .int v1_147), (2, .int v2_147), (3, .int v3_147)]) hx hb dX12_isTaken_149 hl (k := 5) rfl (by rw [ex9]; rfl) (by decide) rfl (fun ls hl => ?_)
        have hf := lt_eq ex9 hf
        have hok := lt_ok ex9 hok
        refine lv_goto (tgt := 6) hx hb dX12_isTaken_152 (by decide) ?_
        exact ih_6 v1_147 v2_147 v3_147 t0_147 x9 _ (lv_sub hl [2, 3, 4, 5, 1, 0] rfl) hf hok
      have J_142 : ∀ (v1_142 : Int32) (v2_142 : Int32) (v3_142 : Int32) (v5_142 : Int32), ∀ ls : Array Slot, lv_has ls 10 [(0, .ref (q 0)), (1, .int v1_142), (2, .int v2_142), (3, .int v3_142), (5, .int v5_142)] → F = pX12_isTaken_L142 m (pX12_isTaken_L6 m n_6) v1_142 v2_142 v3_142 v5_142 → kX12_isTaken_L142 m (kX12_isTaken_L6 m n_6) v1_142 v2_142 v3_142 v5_142 → W p l e rX12_isTaken s mi ([.ref (q 0), .int a1, .int a2, .int a3] : List Value).toArray below meth c s.heap [] 0 0 (MQ below (gRz (pX12_isTaken m a1 a2 a3)) ([.ref (q 0), .int a1, .int a2, .int a3] : List Value).toArray s 0 0 (fun _ => False)) (F0 mi 142 ls []) := by
        intro v1_142 v2_142 v3_142 v5_142 ls hl hf hok
        refine lv_iconst (v := 1) hx hb dX12_isTaken_142 (by decide) ?_
        refine lv_goto (tgt := 147) hx hb dX12_isTaken_143 (by decide) ?_
        exact J_147 v1_142 v2_142 v3_142 v5_142 true _ (lv_sub hl [0, 1, 2, 3, 4] rfl) hf hok
      have J_136 : ∀ (v1_136 : Int32) (v2_136 : Int32) (v3_136 : Int32) (v5_136 : Int32) (t0_136 : Int32) (t1_136 : Int32) (t2_136 : Int32) (t3_136 : Int32) (t4_136 : Int32) (t5_136 : Int32) (t6_136 : Int32), ∀ ls : Array Slot, lv_has ls 10 [(0, .ref (q 0)), (1, .int v1_136), (2, .int v2_136), (3, .int v3_136), (5, .int v5_136)] → F = pX12_isTaken_L136 m (pX12_isTaken_L6 m n_6) v1_136 v2_136 v3_136 v5_136 t0_136 t1_136 t2_136 t3_136 t4_136 t5_136 t6_136 → kX12_isTaken_L136 m (kX12_isTaken_L6 m n_6) v1_136 v2_136 v3_136 v5_136 t0_136 t1_136 t2_136 t3_136 t4_136 t5_136 t6_136 → W p l e rX12_isTaken s mi ([.ref (q 0), .int a1, .int a2, .int a3] : List Value).toArray below meth c s.heap [] 0 0 (MQ below (gRz (pX12_isTaken m a1 a2 a3)) ([.ref (q 0), .int a1, .int a2, .int a3] : List Value).toArray s 0 0 (fun _ => False)) (F0 mi 136 ls [.int t6_136, .int t5_136, .int t4_136, .int t3_136, .int t2_136, .int t1_136, .int t0_136]) := by
        intro v1_136 v2_136 v3_136 v5_136 t0_136 t1_136 t2_136 t3_136 t4_136 t5_136 t6_136 ls hl hf hok
        refine gro_i (va_runS (As := [.int t0_136, .int t1_136, .int t2_136, .int t3_136, .int t4_136, .int t5_136, .int t6_136]) (rest := []) ⟨hx, hb, hml, hown, hts⟩ (mX12_takes l dC dI cI cB cO cL  t0_136 t1_136 t2_136 t3_136 t4_136 t5_136 t6_136  ) (va_cwS 7 hts gX12_isTaken_X12_takes rfl rfl rfl (by decide +kernel) ⟨Nat.le_of_ble_eq_true rfl, Nat.le_of_ble_eq_true rfl⟩) ⟨gP_blind, gP_ok va_P_nil hK⟩ rfl rfl hl.1 rfl (lv_room (Nat.le_of_ble_eq_true rfl)) dX12_isTaken_136 ⟨Nat.zero_le _, Nat.zero_le _⟩) ?_
        refine lv_if_eq (tgt := 146) hx hb dX12_isTaken_139 (by decide) (fun c14 => ?_) (fun c14 => ?_)
        · have c14 := bz_f c14
          have hf := ie_eq c14 hf
          have hok := ie_ok c14 hok
          refine lv_iconst (v := 0) hx hb dX12_isTaken_146 (by decide) ?_
          exact J_147 v1_136 v2_136 v3_136 v5_136 false _ (lv_sub hl [0, 1, 2, 3, 4] rfl) hf hok
        · have c14 := bz_t c14
          have hf := it_eq c14 hf
          have hok := it_ok c14 hok
          exact J_142 v1_136 v2_136 v3_136 v5_136 _ (lv_sub hl [0, 1, 2, 3, 4] rfl) hf hok
      have J_124 : ∀ (v1_124 : Int32) (v2_124 : Int32) (v3_124 : Int32) (v5_124 : Int32) (v7_124 : Bool) (v8_124 : Int32) (v9_124 : Int32) (t0_124 : Int32) (t1_124 : Int32) (t2_124 : Int32) (t3_124 : Int32) (t4_124 : Int32) (t5_124 : Int32), ∀ ls : Array Slot, lv_has ls 10 [(0, .ref (q 0)), (1, .int v1_124), (2, .int v2_124), (3, .int v3_124), (5, .int v5_124), (7, .int (bz v7_124)), (8, .int v8_124), (9, .int v9_124)] → F = pX12_isTaken_L124 m (pX12_isTaken_L6 m n_6) v1_124 v2_124 v3_124 v5_124 v7_124 v8_124 v9_124 t0_124 t1_124 t2_124 t3_124 t4_124 t5_124 → kX12_isTaken_L124 m (kX12_isTaken_L6 m n_6) v1_124 v2_124 v3_124 v5_124 v7_124 v8_124 v9_124 t0_124 t1_124 t2_124 t3_124 t4_124 t5_124 → W p l e rX12_isTaken s mi ([.ref (q 0), .int a1, .int a2, .int a3] : List Value).toArray below meth c s.heap [] 0 0 (MQ below (gRz (pX12_isTaken m a1 a2 a3)) ([.ref (q 0), .int a1, .int a2, .int a3] : List Value).toArray s 0 0 (fun _ => False)) (F0 mi 124 ls [.int t5_124, .int t4_124, .int t3_124, .int t2_124, .int t1_124, .int t0_124]) := by
        intro v1_124 v2_124 v3_124 v5_124 v7_124 v8_124 v9_124 t0_124 t1_124 t2_124 t3_124 t4_124 t5_124 ls hl hf hok
        refine lv_iload hx hb dX12_isTaken_124 (lv_at hl 5 rfl) ?_
        refine lv_if_eq (tgt := 134) hx hb dX12_isTaken_126 (by decide) (fun c13 => ?_) (fun c13 => ?_)
        · have c13 := bz_f c13
          have hf := ie_eq c13 hf
          have hok := ie_ok c13 hok
          refine lv_iload hx hb dX12_isTaken_134 (lv_at hl 7 rfl) ?_
          exact J_136 v1_124 v2_124 v3_124 v5_124 t0_124 t1_124 t2_124 t3_124 t4_124 t5_124 v9_124 _ (lv_sub hl [0, 1, 2, 3, 4] rfl) hf hok
        · have c13 := bz_t c13
          have hf := it_eq c13 hf
          have hok := it_ok c13 hok
          refine lv_iload hx hb dX12_isTaken_129 (lv_at hl 6 rfl) ?_
          refine lv_goto (tgt := 136) hx hb dX12_isTaken_131 (by decide) ?_
          exact J_136 v1_124 v2_124 v3_124 v5_124 t0_124 t1_124 t2_124 t3_124 t4_124 t5_124 v8_124 _ (lv_sub hl [0, 1, 2, 3, 4] rfl) hf hok
      have J_112 : ∀ (v1_112 : Int32) (v2_112 : Int32) (v3_112 : Int32) (v5_112 : Int32) (v7_112 : Bool) (v8_112 : Int32) (v9_112 : Int32) (t0_112 : Int32) (t1_112 : Int32) (t2_112 : Int32) (t3_112 : Int32) (t4_112 : Int32), ∀ ls : Array Slot, lv_has ls 10 [(0, .ref (q 0)), (1, .int v1_112), (2, .int v2_112), (3, .int v3_112), (5, .int v5_112), (7, .int (bz v7_112)), (8, .int v8_112), (9, .int v9_112)] → F = pX12_isTaken_L112 m (pX12_isTaken_L6 m n_6) v1_112 v2_112 v3_112 v5_112 v7_112 v8_112 v9_112 t0_112 t1_112 t2_112 t3_112 t4_112 → kX12_isTaken_L112 m (kX12_isTaken_L6 m n_6) v1_112 v2_112 v3_112 v5_112 v7_112 v8_112 v9_112 t0_112 t1_112 t2_112 t3_112 t4_112 → W p l e rX12_isTaken s mi ([.ref (q 0), .int a1, .int a2, .int a3] : List Value).toArray below meth c s.heap [] 0 0 (MQ below (gRz (pX12_isTaken m a1 a2 a3)) ([.ref (q 0), .int a1, .int a2, .int a3] : List Value).toArray s 0 0 (fun _ => False)) (F0 mi 112 ls [.int t4_112, .int t3_112, .int t2_112, .int t1_112, .int t0_112]) := by
        intro v1_112 v2_112 v3_112 v5_112 v7_112 v8_112 v9_112 t0_112 t1_112 t2_112 t3_112 t4_112 ls hl hf hok
        refine lv_iload hx hb dX12_isTaken_112 (lv_at hl 5 rfl) ?_
        refine lv_if_eq (tgt := 122) hx hb dX12_isTaken_114 (by decide) (fun c12 => ?_) (fun c12 => ?_)
        · have c12 := bz_f c12
          have hf := ie_eq c12 hf
          have hok := ie_ok c12 hok
          refine lv_iload hx hb dX12_isTaken_122 (lv_at hl 6 rfl) ?_
          exact J_124 v1_112 v2_112 v3_112 v5_112 v7_112 v8_112 v9_112 t0_112 t1_112 t2_112 t3_112 t4_112 v8_112 _ (lv_sub hl [0, 1, 2, 3, 4, 5, 6, 7] rfl) hf hok
        · have c12 := bz_t c12
          have hf := it_eq c12 hf
          have hok := it_ok c12 hok
          refine lv_iload hx hb dX12_isTaken_117 (lv_at hl 7 rfl) ?_
          refine lv_goto (tgt := 124) hx hb dX12_isTaken_119 (by decide) ?_
          exact J_124 v1_112 v2_112 v3_112 v5_112 v7_112 v8_112 v9_112 t0_112 t1_112 t2_112 t3_112 t4_112 v9_112 _ (lv_sub hl [0, 1, 2, 3, 4, 5, 6, 7] rfl) hf hok
      have J_102 : ∀ (v1_102 : Int32) (v2_102 : Int32) (v3_102 : Int32) (v5_102 : Int32) (v7_102 : Bool) (v8_102 : Int32) (v9_102 : Int32) (t0_102 : Int32) (t1_102 : Int32) (t2_102 : Int32) (t3_102 : Int32), ∀ ls : Array Slot, lv_has ls 10 [(0, .ref (q 0)), (1, .int v1_102), (2, .int v2_102), (3, .int v3_102), (5, .int v5_102), (7, .int (bz v7_102)), (8, .int v8_102), (9, .int v9_102)] → F = pX12_isTaken_L102 m (pX12_isTaken_L6 m n_6) v1_102 v2_102 v3_102 v5_102 v7_102 v8_102 v9_102 t0_102 t1_102 t2_102 t3_102 → kX12_isTaken_L102 m (kX12_isTaken_L6 m n_6) v1_102 v2_102 v3_102 v5_102 v7_102 v8_102 v9_102 t0_102 t1_102 t2_102 t3_102 → W p l e rX12_isTaken s mi ([.ref (q 0), .int a1, .int a2, .int a3] : List Value).toArray below meth c s.heap [] 0 0 (MQ below (gRz (pX12_isTaken m a1 a2 a3)) ([.ref (q 0), .int a1, .int a2, .int a3] : List Value).toArray s 0 0 (fun _ => False)) (F0 mi 102 ls [.int t3_102, .int t2_102, .int t1_102, .int t0_102]) := by
        intro v1_102 v2_102 v3_102 v5_102 v7_102 v8_102 v9_102 t0_102 t1_102 t2_102 t3_102 ls hl hf hok
        refine lv_iload hx hb dX12_isTaken_102 (lv_at hl 5 rfl) ?_
        refine lv_if_eq (tgt := 111) hx hb dX12_isTaken_104 (by decide) (fun c11 => ?_) (fun c11 => ?_)
        · have c11 := bz_f c11
          have hf := ie_eq c11 hf
          have hok := ie_ok c11 hok
          refine lv_iload_n hx hb dX12_isTaken_111 rfl (lv_at hl 2 rfl) ?_
          exact J_112 v1_102 v2_102 v3_102 v5_102 v7_102 v8_102 v9_102 t0_102 t1_102 t2_102 t3_102 v2_102 _ (lv_sub hl [0, 1, 2, 3, 4, 5, 6, 7] rfl) hf hok
        · have c11 := bz_t c11
          have hf := it_eq c11 hf
          have hok := it_ok c11 hok
          refine lv_iload_n hx hb dX12_isTaken_107 rfl (lv_at hl 1 rfl) ?_
          refine lv_goto (tgt := 112) hx hb dX12_isTaken_108 (by decide) ?_
          exact J_112 v1_102 v2_102 v3_102 v5_102 v7_102 v8_102 v9_102 t0_102 t1_102 t2_102 t3_102 v1_102 _ (lv_sub hl [0, 1, 2, 3, 4, 5, 6, 7] rfl) hf hok
      have J_42 : ∀ (v1_42 : Int32) (v2_42 : Int32) (v3_42 : Int32) (v4_42 : Bool) (v5_42 : Int32) (v6_42 : Int32) (t0_42 : Bool), ∀ ls : Array Slot, lv_has ls 10 [(0, .ref (q 0)), (1, .int v1_42), (2, .int v2_42), (3, .int v3_42), (4, .int (bz v4_42)), (5, .int v5_42), (6, .int v6_42)] → F = pX12_isTaken_L42 m (pX12_isTaken_L6 m n_6) v1_42 v2_42 v3_42 v4_42 v5_42 v6_42 t0_42 → kX12_isTaken_L42 m (kX12_isTaken_L6 m n_6) v1_42 v2_42 v3_42 v4_42 v5_42 v6_42 t0_42 → W p l e rX12_isTaken s mi ([.ref (q 0), .int a1, .int a2, .int a3] : List Value).toArray below meth c s.heap [] 0 0 (MQ below (gRz (pX12_isTaken m a1 a2 a3)) ([.ref (q 0), .int a1, .int a2, .int a3] : List Value).toArray s 0 0 (fun _ => False)) (F0 mi 42 ls [.int (bz t0_42)]) := by
        intro v1_42 v2_42 v3_42 v4_42 v5_42 v6_42 t0_42 ls hl hf hok
        refine lv_istore (lv' := [(7, .int (bz t0_42)), (0, .ref (q 0)), (1, .int v1_42), (2, .int v2_42), (3, .int v3_42), (4, .int (bz v4_42)), (5, .int v5_42), (6, .int v6_42)]) hx hb dX12_isTaken_42 hl (by decide) rfl (fun ls hl => ?_)
        refine lv_aload_n hx hb dX12_isTaken_44 rfl (lv_at hl 1 rfl) ?_
        refine lv_iload_n hx hb dX12_isTaken_45 rfl (lv_at hl 4 rfl) ?_
        refine lv_iconst (v := 0) hx hb dX12_isTaken_46 (by decide) ?_
        obtain ⟨h4, hok⟩ := hok
        refine gro_i (va_runV (As := [.int v3_42, .int 0]) (rest := []) ⟨hx, hb, hml, hown, hts⟩ (mX12_of l dC dI cI cB cO cL q m v3_42 0  h4) (cwV 2 hts gX12_isTaken_X12_of rfl rfl rfl (by decide +kernel) ⟨Nat.le_of_ble_eq_true rfl, Nat.le_of_ble_eq_true rfl⟩) ⟨gP_blind, va_recv hK hP (ci := 9) (q0 := 0) rfl rfl, gP_ok hP hK⟩ rfl rfl hl.1 rfl (lv_room (Nat.le_of_ble_eq_true rfl)) dX12_isTaken_47 ⟨Nat.zero_le _, Nat.zero_le _⟩) ?_
        refine lv_topi (fun x5 ex5 => ?_)
        have hf := lt_eq ex5 hf
        have hok := lt_ok ex5 hok
        refine lv_istore (lv' := [(8, .int x5), (7, .int (bz t0_42)), (0, .ref (q 0)), (1, .int v1_42), (2, .int v2_42), (3, .int v3_42), (4, .int (bz v4_42)), (5, .int v5_42), (6, .int v6_42)]) hx hb dX12_isTaken_50 hl (by decide) rfl (fun ls hl => ?_)
        refine lv_aload_n hx hb dX12_isTaken_52 rfl (lv_at hl 2 rfl) ?_
        refine lv_iload_n hx hb dX12_isTaken_53 rfl (lv_at hl 5 rfl) ?_
        refine lv_iconst (v := 1) hx hb dX12_isTaken_54 (by decide) ?_
        obtain ⟨h6, hok⟩ := hok
        refine gro_i (va_runV (As := [.int v3_42, .int 1]) (rest := []) ⟨hx, hb, hml, hown, hts⟩ (mX12_of l dC dI cI cB cO cL q m v3_42 1  h6) (cwV 2 hts gX12_isTaken_X12_of rfl rfl rfl (by decide +kernel) ⟨Nat.le_of_ble_eq_true rfl, Nat.le_of_ble_eq_true rfl⟩) ⟨gP_blind, va_recv hK hP (ci := 9) (q0 := 0) rfl rfl, gP_ok hP hK⟩ rfl rfl hl.1 rfl (lv_room (Nat.le_of_ble_eq_true rfl)) dX12_isTaken_55 ⟨Nat.zero_le _, Nat.zero_le _⟩) ?_
        refine lv_topi (fun x7 ex7 => ?_)
        have hf := lt_eq ex7 hf
        have hok := lt_ok ex7 hok
        refine lv_istore (lv' := [(9, .int x7), (8, .int x5), (7, .int (bz t0_42)), (0, .ref (q 0)), (1, .int v1_42), (2, .int v2_42), (3, .int v3_42), (4, .int (bz v4_42)), (5, .int v5_42), (6, .int v6_42)]) hx hb dX12_isTaken_58 hl (by decide) rfl (fun ls hl => ?_)
        refine lv_iload hx hb dX12_isTaken_60 (lv_at hl 7 rfl) ?_
        refine lv_if_ne (tgt := 142) hx hb dX12_isTaken_62 (by decide) (fun c8 => ?_) (fun c8 => ?_)
        · have c8 := bz_t c8
          have hf := it_eq c8 hf
          have hok := it_ok c8 hok
          exact J_142 v1_42 v2_42 v3_42 v5_42 _ (lv_sub hl [3, 4, 5, 6, 8] rfl) hf hok
        · have c8 := bz_f c8
          have hf := ie_eq c8 hf
          have hok := ie_ok c8 hok
          refine lv_aload_n hx hb dX12_isTaken_65 rfl (lv_at hl 3 rfl) ?_
          refine va_get (D := (dC, dI)) (ci := 9) (v := .ref (q 1)) (C := RX12) (T := TX12) (N := 23) hx hb hts hin12 hown hK hP 0 rfl rfl 0 (by decide) fl7 (fun _ h9 => h9) rfl dX12_isTaken_66 ?_
          refine lv_iload hx hb dX12_isTaken_69 (lv_at hl 9 rfl) ?_
          refine lv_iconst (v := 1) hx hb dX12_isTaken_71 (by decide) ?_
          refine lv_iadd hx hb dX12_isTaken_72 ?_
          obtain ⟨h17, hok⟩ := hok
          refine va_iald (D := (dC, dI)) (tys := (tYS cI cB cO cL)) hx hb hK hP 1 0 rfl rfl h17 dX12_isTaken_73 ?_
          refine lv_aload_n hx hb dX12_isTaken_74 rfl (lv_at hl 3 rfl) ?_
          refine va_get (D := (dC, dI)) (ci := 9) (v := .ref (q 1)) (C := RX12) (T := TX12) (N := 23) hx hb hts hin12 hown hK hP 0 rfl rfl 0 (by decide) fl7 (fun _ h9 => h9) rfl dX12_isTaken_75 ?_
          refine lv_iload hx hb dX12_isTaken_78 (lv_at hl 9 rfl) ?_
          refine lv_iconst (v := 2) hx hb dX12_isTaken_80 (by decide) ?_
          refine lv_iadd hx hb dX12_isTaken_81 ?_
          obtain ⟨h16, hok⟩ := hok
          refine va_iald (D := (dC, dI)) (tys := (tYS cI cB cO cL)) hx hb hK hP 1 0 rfl rfl h16 dX12_isTaken_82 ?_
          refine lv_aload_n hx hb dX12_isTaken_83 rfl (lv_at hl 3 rfl) ?_
          refine va_get (D := (dC, dI)) (ci := 9) (v := .ref (q 1)) (C := RX12) (T := TX12) (N := 23) hx hb hts hin12 hown hK hP 0 rfl rfl 0 (by decide) fl7 (fun _ h9 => h9) rfl dX12_isTaken_84 ?_
          refine lv_iload hx hb dX12_isTaken_87 (lv_at hl 9 rfl) ?_
          refine lv_iconst (v := 3) hx hb dX12_isTaken_89 (by decide) ?_
          refine lv_iadd hx hb dX12_isTaken_90 ?_
          obtain ⟨h15, hok⟩ := hok
          refine va_iald (D := (dC, dI)) (tys := (tYS cI cB cO cL)) hx hb hK hP 1 0 rfl rfl h15 dX12_isTaken_91 ?_
          refine lv_iload hx hb dX12_isTaken_92 (lv_at hl 2 rfl) ?_
          refine lv_if_eq (tgt := 101) hx hb dX12_isTaken_94 (by decide) (fun c10 => ?_) (fun c10 => ?_)
          · have c10 := bz_f c10
            have hf := ie_eq c10 hf
            have hok := ie_ok c10 hok
            refine lv_iload_n hx hb dX12_isTaken_101 rfl (lv_at hl 4 rfl) ?_
            exact J_102 v1_42 v2_42 v3_42 v5_42 t0_42 x5 x7 ((m.2.2 0) ((v6_42 + 1).toNatClampNeg)) ((m.2.2 0) ((v6_42 + 2).toNatClampNeg)) ((m.2.2 0) ((v6_42 + 3).toNatClampNeg)) v1_42 _ (lv_sub hl [3, 4, 5, 6, 8, 2, 1, 0] rfl) hf hok
          · have c10 := bz_t c10
            have hf := it_eq c10 hf
            have hok := it_ok c10 hok
            refine lv_iload_n hx hb dX12_isTaken_97 rfl (lv_at hl 5 rfl) ?_
            refine lv_goto (tgt := 102) hx hb dX12_isTaken_98 (by decide) ?_
            exact J_102 v1_42 v2_42 v3_42 v5_42 t0_42 x5 x7 ((m.2.2 0) ((v6_42 + 1).toNatClampNeg)) ((m.2.2 0) ((v6_42 + 2).toNatClampNeg)) ((m.2.2 0) ((v6_42 + 3).toNatClampNeg)) v2_42 _ (lv_sub hl [3, 4, 5, 6, 8, 2, 1, 0] rfl) hf hok
      intro v1_6 v2_6 v3_6 v4_6 v5_6 ls hl hf hok
      have hf : F = bX12_isTaken_L6 m (pX12_isTaken_L6 m n_6) v1_6 v2_6 v3_6 v4_6 v5_6 := hf
      have hok : kbX12_isTaken_L6 m (kX12_isTaken_L6 m n_6) v1_6 v2_6 v3_6 v4_6 v5_6 := hok
      refine lv_iload hx hb dX12_isTaken_6 (lv_at hl 5 rfl) ?_
      refine lv_aload_n hx hb dX12_isTaken_8 rfl (lv_at hl 0 rfl) ?_
      refine va_get (D := (dC, dI)) (ci := 9) (v := .ref (q 1)) (C := RX12) (T := TX12) (N := 23) hx hb hts hin12 hown hK hP 0 rfl rfl 0 (by decide) fl7 (fun _ h9 => h9) rfl dX12_isTaken_9 ?_
      refine lv_iconst (v := 4) hx hb dX12_isTaken_12 (by decide) ?_
      refine g_ialdK (D := (dC, dI)) (tys := (tYS cI cB cO cL)) (k := 4) hx hb hK hP 1 0 rfl rfl (by decide) (by decide) (by decide) dX12_isTaken_13 ?_
      refine lv_icmp_ge (tgt := 155) hx hb dX12_isTaken_14 (by decide) (fun c1 => ?_) (fun c1 => ?_)
      · have hf := it_eq c1 hf
        refine lv_iload hx hb dX12_isTaken_155 (lv_at hl 4 rfl) ?_
        exact e_rz C0 (b := v4_6) rfl (hf.symm.trans hF) dX12_isTaken_157
      · have hf := ie_eq c1 hf
        have hok := ie_ok c1 hok
        refine lv_bipush (v := 106) hx hb dX12_isTaken_17 (by decide) ?_
        refine lv_iconst (v := 4) hx hb dX12_isTaken_19 (by decide) ?_
        refine lv_iload hx hb dX12_isTaken_20 (lv_at hl 5 rfl) ?_
        refine lv_imul hx hb dX12_isTaken_22 ?_
        refine lv_iadd hx hb dX12_isTaken_23 ?_
        refine lv_topi (fun x2 ex2 => ?_)
        have hf := lt_eq ex2 hf
        have hok := lt_ok ex2 hok
        refine lv_istore (lv' := [(6, .int x2), (0, .ref (q 0)), (1, .int v1_6), (2, .int v2_6), (3, .int v3_6), (4, .int (bz v4_6)), (5, .int v5_6)]) hx hb dX12_isTaken_24 hl (by decide) rfl (fun ls hl => ?_)
        refine lv_aload_n hx hb dX12_isTaken_26 rfl (lv_at hl 1 rfl) ?_
        refine va_get (D := (dC, dI)) (ci := 9) (v := .ref (q 1)) (C := RX12) (T := TX12) (N := 23) hx hb hts hin12 hown hK hP 0 rfl rfl 0 (by decide) fl7 (fun _ h9 => h9) rfl dX12_isTaken_27 ?_
        refine lv_iload hx hb dX12_isTaken_30 (lv_at hl 0 rfl) ?_
        obtain ⟨h18, hok⟩ := hok
        refine va_iald (D := (dC, dI)) (tys := (tYS cI cB cO cL)) hx hb hK hP 1 0 rfl rfl h18 dX12_isTaken_32 ?_
        refine lv_iconst (v := 1) hx hb dX12_isTaken_33 (by decide) ?_
        refine lv_icmp_ne (tgt := 41) hx hb dX12_isTaken_34 (by decide) (fun c3 => ?_) (fun c3 => ?_)
        · have hf := ie_eq c3 hf
          have hok := ie_ok c3 hok
          refine lv_iconst (v := 0) hx hb dX12_isTaken_41 (by decide) ?_
          exact J_42 v1_6 v2_6 v3_6 v4_6 v5_6 x2 false _ (lv_sub hl [1, 2, 3, 4, 5, 6, 0] rfl) hf hok
        · have hf := it_eq c3 hf
          have hok := it_ok c3 hok
          refine lv_iconst (v := 1) hx hb dX12_isTaken_37 (by decide) ?_
          refine lv_goto (tgt := 42) hx hb dX12_isTaken_38 (by decide) ?_
          exact J_42 v1_6 v2_6 v3_6 v4_6 v5_6 x2 true _ (lv_sub hl [1, 2, 3, 4, 5, 6, 0] rfl) hf hok
  refine lv_iconst (v := 0) hx hb dX12_isTaken_0 (by decide) ?_
  refine lv_istore (lv' := [(4, .int 0), (0, .ref (q 0)), (1, .int a1), (2, .int a2), (3, .int a3)]) hx hb dX12_isTaken_1 hl (by decide) rfl (fun ls hl => ?_)
  refine lv_iconst (v := 0) hx hb dX12_isTaken_3 (by decide) ?_
  refine lv_istore (lv' := [(5, .int 0), (4, .int 0), (0, .ref (q 0)), (1, .int a1), (2, .int a2), (3, .int a3)]) hx hb dX12_isTaken_4 hl (by decide) rfl (fun ls hl => ?_)
  exact J_6 fu a1 a2 a3 false 0 _ (lv_sub hl [2, 3, 4, 5, 1, 0] rfl) hf hok
noncomputable def pX12_mirroredX (m : MS) (a1 : Int32) (a2 : Int32) : Int32 := lt (94 + (3 * a1)) fun (x1 : Int32) => if ((m.2.2 0) x1.toNatClampNeg) = 0 then ((2 * ((m.2.2 0) ((x1 + 1).toNatClampNeg))) - a2) else (a2)
def kX12_mirroredX (m : MS) (a1 : Int32) (a2 : Int32) : Prop := lt (94 + (3 * a1)) fun (x1 : Int32) => (vp_in x1 122) ∧ (if ((m.2.2 0) x1.toNatClampNeg) = 0 then (vp_in (x1 + 1) 122) else (True))
abbrev rX12_mirroredX : Room := { frames := 0, cells := 0, slots := 0, locals := 0 }
set_option maxHeartbeats 4000000 in
set_option maxRecDepth 100000 in
theorem mX12_mirroredX (l : Launch) (dC : Nat → ClassId) (dI : Nat → Nat → Nat) (cI cB cO cL : ClassId) (q : Nat → Nat) (m : MS) (a1 : Int32) (a2 : Int32) (hok : kX12_mirroredX m a1 a2) : Met l yX12_mirroredX wsX12_mirroredX rX12_mirroredX (gP (dC, dI) (tYS cI cB cO cL) (mw q cI m) [.ref (q 0), .int a1, .int a2]) (gRi (pX12_mirroredX m a1 a2)) 0 0 (fun _ => False) := by
  refine gMet (cc := cX12_mirroredX) (maxL := 4) (ret := some .int) [(0, .ref (q 0)), (1, .int a1), (2, .int a2)] (by decide) rfl rfl rfl ?_
  intro p e s mi below meth c C0 hK hP ls hl
  obtain ⟨hx, hb, hr, hml, hown, hts, hlocks⟩ := id C0
  have hown : s.vm.findClass RX12 = some mi.cls := hown
  obtain ⟨F, hF⟩ : ∃ F, F = pX12_mirroredX m a1 a2 := ⟨_, rfl⟩
  have hf := hF
  have hin12 : ∀ w ∈ u_ws RX12 TX12 23, w ∈ wsX12_mirroredX := by decide +kernel
  have fl7 := hts (.fieldLink RX12 7 "ClickBenchModel" "s" "[I") (by decide +kernel)
  refine lv_bipush (v := 94) hx hb dX12_mirroredX_0 (by decide) ?_
  refine lv_iconst (v := 3) hx hb dX12_mirroredX_2 (by decide) ?_
  refine lv_iload_n hx hb dX12_mirroredX_3 rfl (lv_at hl 1 rfl) ?_
  refine lv_imul hx hb dX12_mirroredX_4 ?_
  refine lv_iadd hx hb dX12_mirroredX_5 ?_
  refine lv_topi (fun x1 ex1 => ?_)
  have hf := lt_eq ex1 hf
  have hok := lt_ok ex1 hok
  refine lv_istore_n (lv' := [(3, .int x1), (0, .ref (q 0)), (1, .int a1), (2, .int a2)]) hx hb dX12_mirroredX_6 rfl hl (by decide) rfl (fun ls hl => ?_)
  refine lv_aload_n hx hb dX12_mirroredX_7 rfl (lv_at hl 1 rfl) ?_
  refine va_get (D := (dC, dI)) (ci := 9) (v := .ref (q 1)) (C := RX12) (T := TX12) (N := 23) hx hb hts hin12 hown hK hP 0 rfl rfl 0 (by decide) fl7 (fun _ h9 => h9) rfl dX12_mirroredX_8 ?_
  refine lv_iload_n hx hb dX12_mirroredX_11 rfl (lv_at hl 0 rfl) ?_
  obtain ⟨h4, hok⟩ := hok
  refine va_iald (D := (dC, dI)) (tys := (tYS cI cB cO cL)) hx hb hK hP 1 0 rfl rfl h4 dX12_mirroredX_12 ?_
  refine lv_if_ne (tgt := 31) hx hb dX12_mirroredX_13 (by decide) (fun c2 => ?_) (fun c2 => ?_)
  · have hf := ie_eq c2 hf
    refine lv_iload_n hx hb dX12_mirroredX_31 rfl (lv_at hl 3 rfl) ?_
    exact e_ri C0 (hf.symm.trans hF) dX12_mirroredX_32
  · have hf := it_eq c2 hf
    have hok := it_ok c2 hok
    refine lv_iconst (v := 2) hx hb dX12_mirroredX_16 (by decide) ?_
    refine lv_aload_n hx hb dX12_mirroredX_17 rfl (lv_at hl 1 rfl) ?_
    refine va_get (D := (dC, dI)) (ci := 9) (v := .ref (q 1)) (C := RX12) (T := TX12) (N := 23) hx hb hts hin12 hown hK hP 0 rfl rfl 0 (by decide) fl7 (fun _ h9 => h9) rfl dX12_mirroredX_18 ?_
    refine lv_iload_n hx hb dX12_mirroredX_21 rfl (lv_at hl 0 rfl) ?_
    refine lv_iconst (v := 1) hx hb dX12_mirroredX_22 (by decide) ?_
    refine lv_iadd hx hb dX12_mirroredX_23 ?_
    have h3 : vp_in (x1 + 1) 122 := hok
    refine va_iald (D := (dC, dI)) (tys := (tYS cI cB cO cL)) hx hb hK hP 1 0 rfl rfl h3 dX12_mirroredX_24 ?_
    refine lv_imul hx hb dX12_mirroredX_25 ?_
    refine lv_iload_n hx hb dX12_mirroredX_26 rfl (lv_at hl 3 rfl) ?_
    refine lv_isub hx hb dX12_mirroredX_27 ?_
    refine lv_goto (tgt := 32) hx hb dX12_mirroredX_28 (by decide) ?_
    exact e_ri C0 (hf.symm.trans hF) dX12_mirroredX_32
noncomputable def pX12_mirroredY (m : MS) (a1 : Int32) (a2 : Int32) : Int32 := lt (94 + (3 * a1)) fun (x1 : Int32) => if ((m.2.2 0) x1.toNatClampNeg) = 1 then ((2 * ((m.2.2 0) ((x1 + 1).toNatClampNeg))) - a2) else (a2)
def kX12_mirroredY (m : MS) (a1 : Int32) (a2 : Int32) : Prop := lt (94 + (3 * a1)) fun (x1 : Int32) => (vp_in x1 122) ∧ (if ((m.2.2 0) x1.toNatClampNeg) = 1 then (vp_in (x1 + 1) 122) else (True))
abbrev rX12_mirroredY : Room := { frames := 0, cells := 0, slots := 0, locals := 0 }
set_option maxHeartbeats 4000000 in
set_option maxRecDepth 100000 in
theorem mX12_mirroredY (l : Launch) (dC : Nat → ClassId) (dI : Nat → Nat → Nat) (cI cB cO cL : ClassId) (q : Nat → Nat) (m : MS) (a1 : Int32) (a2 : Int32) (hok : kX12_mirroredY m a1 a2) : Met l yX12_mirroredY wsX12_mirroredY rX12_mirroredY (gP (dC, dI) (tYS cI cB cO cL) (mw q cI m) [.ref (q 0), .int a1, .int a2]) (gRi (pX12_mirroredY m a1 a2)) 0 0 (fun _ => False) := by
  refine gMet (cc := cX12_mirroredY) (maxL := 4) (ret := some .int) [(0, .ref (q 0)), (1, .int a1), (2, .int a2)] (by decide) rfl rfl rfl ?_
  intro p e s mi below meth c C0 hK hP ls hl
  obtain ⟨hx, hb, hr, hml, hown, hts, hlocks⟩ := id C0
  have hown : s.vm.findClass RX12 = some mi.cls := hown
  obtain ⟨F, hF⟩ : ∃ F, F = pX12_mirroredY m a1 a2 := ⟨_, rfl⟩
  have hf := hF
  have hin12 : ∀ w ∈ u_ws RX12 TX12 23, w ∈ wsX12_mirroredY := by decide +kernel
  have fl7 := hts (.fieldLink RX12 7 "ClickBenchModel" "s" "[I") (by decide +kernel)
  refine lv_bipush (v := 94) hx hb dX12_mirroredY_0 (by decide) ?_
  refine lv_iconst (v := 3) hx hb dX12_mirroredY_2 (by decide) ?_
  refine lv_iload_n hx hb dX12_mirroredY_3 rfl (lv_at hl 1 rfl) ?_
  refine lv_imul hx hb dX12_mirroredY_4 ?_
  refine lv_iadd hx hb dX12_mirroredY_5 ?_
  refine lv_topi (fun x1 ex1 => ?_)
  have hf := lt_eq ex1 hf
  have hok := lt_ok ex1 hok
  refine lv_istore_n (lv' := [(3, .int x1), (0, .ref (q 0)), (1, .int a1), (2, .int a2)]) hx hb dX12_mirroredY_6 rfl hl (by decide) rfl (fun ls hl => ?_)
  refine lv_aload_n hx hb dX12_mirroredY_7 rfl (lv_at hl 1 rfl) ?_
  refine va_get (D := (dC, dI)) (ci := 9) (v := .ref (q 1)) (C := RX12) (T := TX12) (N := 23) hx hb hts hin12 hown hK hP 0 rfl rfl 0 (by decide) fl7 (fun _ h9 => h9) rfl dX12_mirroredY_8 ?_
  refine lv_iload_n hx hb dX12_mirroredY_11 rfl (lv_at hl 0 rfl) ?_
  obtain ⟨h4, hok⟩ := hok
  refine va_iald (D := (dC, dI)) (tys := (tYS cI cB cO cL)) hx hb hK hP 1 0 rfl rfl h4 dX12_mirroredY_12 ?_
  refine lv_iconst (v := 1) hx hb dX12_mirroredY_13 (by decide) ?_
  refine lv_icmp_ne (tgt := 32) hx hb dX12_mirroredY_14 (by decide) (fun c2 => ?_) (fun c2 => ?_)
  · have hf := ie_eq c2 hf
    refine lv_iload_n hx hb dX12_mirroredY_32 rfl (lv_at hl 3 rfl) ?_
    exact e_ri C0 (hf.symm.trans hF) dX12_mirroredY_33
  · have hf := it_eq c2 hf
    have hok := it_ok c2 hok
    refine lv_iconst (v := 2) hx hb dX12_mirroredY_17 (by decide) ?_
    refine lv_aload_n hx hb dX12_mirroredY_18 rfl (lv_at hl 1 rfl) ?_
    refine va_get (D := (dC, dI)) (ci := 9) (v := .ref (q 1)) (C := RX12) (T := TX12) (N := 23) hx hb hts hin12 hown hK hP 0 rfl rfl 0 (by decide) fl7 (fun _ h9 => h9) rfl dX12_mirroredY_19 ?_
    refine lv_iload_n hx hb dX12_mirroredY_22 rfl (lv_at hl 0 rfl) ?_
    refine lv_iconst (v := 1) hx hb dX12_mirroredY_23 (by decide) ?_
    refine lv_iadd hx hb dX12_mirroredY_24 ?_
    have h3 : vp_in (x1 + 1) 122 := hok
    refine va_iald (D := (dC, dI)) (tys := (tYS cI cB cO cL)) hx hb hK hP 1 0 rfl rfl h3 dX12_mirroredY_25 ?_
    refine lv_imul hx hb dX12_mirroredY_26 ?_
    refine lv_iload_n hx hb dX12_mirroredY_27 rfl (lv_at hl 3 rfl) ?_
    refine lv_isub hx hb dX12_mirroredY_28 ?_
    refine lv_goto (tgt := 33) hx hb dX12_mirroredY_29 (by decide) ?_
    exact e_ri C0 (hf.symm.trans hF) dX12_mirroredY_33
noncomputable def pX12_weaker (m : MS) (a1 : Int32) (a2 : Int32) : Int32 := if a2 = (-1000000000) then (a1) else ((a1 * (100 - ((m.2.2 0) (((94 + (3 * a2)) + 2).toNatClampNeg)))) / 100)
def kX12_weaker (m : MS) (a1 : Int32) (a2 : Int32) : Prop := if a2 = (-1000000000) then (True) else (vp_in ((94 + (3 * a2)) + 2) 122)
abbrev rX12_weaker : Room := { frames := 0, cells := 0, slots := 0, locals := 0 }
set_option maxHeartbeats 4000000 in
set_option maxRecDepth 100000 in
theorem mX12_weaker (l : Launch) (dC : Nat → ClassId) (dI : Nat → Nat → Nat) (cI cB cO cL : ClassId) (q : Nat → Nat) (m : MS) (a1 : Int32) (a2 : Int32) (hok : kX12_weaker m a1 a2) : Met l yX12_weaker wsX12_weaker rX12_weaker (gP (dC, dI) (tYS cI cB cO cL) (mw q cI m) [.ref (q 0), .int a1, .int a2]) (gRi (pX12_weaker m a1 a2)) 0 0 (fun _ => False) := by
  refine gMet (cc := cX12_weaker) (maxL := 3) (ret := some .int) [(0, .ref (q 0)), (1, .int a1), (2, .int a2)] (by decide) rfl rfl rfl ?_
  intro p e s mi below meth c C0 hK hP ls hl
  obtain ⟨hx, hb, hr, hml, hown, hts, hlocks⟩ := id C0
  have hown : s.vm.findClass RX12 = some mi.cls := hown
  obtain ⟨F, hF⟩ : ∃ F, F = pX12_weaker m a1 a2 := ⟨_, rfl⟩
  have hf := hF
  have hin12 : ∀ w ∈ u_ws RX12 TX12 23, w ∈ wsX12_weaker := by decide +kernel
  have cn71 := hts (.constant RX12 71 (-1000000000)) (by decide +kernel)
  have fl7 := hts (.fieldLink RX12 7 "ClickBenchModel" "s" "[I") (by decide +kernel)
  refine lv_iload_n hx hb dX12_weaker_0 rfl (lv_at hl 2 rfl) ?_
  refine lv_ldc (v := (-1000000000)) hx hb hown cn71 dX12_weaker_1 ?_
  refine lv_icmp_ne (tgt := 10) hx hb dX12_weaker_3 (by decide) (fun c1 => ?_) (fun c1 => ?_)
  · have hf := ie_eq c1 hf
    have hok := ie_ok c1 hok
    refine lv_iload_n hx hb dX12_weaker_10 rfl (lv_at hl 1 rfl) ?_
    refine lv_bipush (v := 100) hx hb dX12_weaker_11 (by decide) ?_
    refine lv_aload_n hx hb dX12_weaker_13 rfl (lv_at hl 0 rfl) ?_
    refine va_get (D := (dC, dI)) (ci := 9) (v := .ref (q 1)) (C := RX12) (T := TX12) (N := 23) hx hb hts hin12 hown hK hP 0 rfl rfl 0 (by decide) fl7 (fun _ h9 => h9) rfl dX12_weaker_14 ?_
    refine lv_bipush (v := 94) hx hb dX12_weaker_17 (by decide) ?_
    refine lv_iconst (v := 3) hx hb dX12_weaker_19 (by decide) ?_
    refine lv_iload_n hx hb dX12_weaker_20 rfl (lv_at hl 2 rfl) ?_
    refine lv_imul hx hb dX12_weaker_21 ?_
    refine lv_iadd hx hb dX12_weaker_22 ?_
    refine lv_iconst (v := 2) hx hb dX12_weaker_23 (by decide) ?_
    refine lv_iadd hx hb dX12_weaker_24 ?_
    have h2 : vp_in ((94 + (3 * a2)) + 2) 122 := hok
    refine va_iald (D := (dC, dI)) (tys := (tYS cI cB cO cL)) hx hb hK hP 1 0 rfl rfl h2 dX12_weaker_25 ?_
    refine lv_isub hx hb dX12_weaker_26 ?_
    refine lv_imul hx hb dX12_weaker_27 ?_
    refine lv_bipush (v := 100) hx hb dX12_weaker_28 (by decide) ?_
    refine lv_idiv hx hb dX12_weaker_30 (by decide) ?_
    exact e_ri C0 (hf.symm.trans hF) dX12_weaker_31
  · have hf := it_eq c1 hf
    refine lv_iload_n hx hb dX12_weaker_6 rfl (lv_at hl 1 rfl) ?_
    refine lv_goto (tgt := 31) hx hb dX12_weaker_7 (by decide) ?_
    exact e_ri C0 (hf.symm.trans hF) dX12_weaker_31
noncomputable def pX12_adds (m : MS) (a1 : Int32) (a2 : Int32) (a3 : Int32) (a4 : Int32) (a5 : Int32) (a6 : Int32) : MS := lt (msa m 4 (upd (m.2.2 4) ((m.1 4).toNatClampNeg) a2)) fun (m_2 : MS) => lt (msa m_2 5 (upd (m_2.2.2 5) ((m_2.1 4).toNatClampNeg) (pX12_wayTo m_2 a3 a4 a1))) fun (m_5 : MS) => lt (msa m_5 6 (upd (m_5.2.2 6) ((m_5.1 4).toNatClampNeg) (pX12_weaker m_5 (pX12_weaker m_5 (100000 / (((m_5.2.2 5) ((m_5.1 4).toNatClampNeg)) + 100)) a5) a6))) fun (m_10 : MS) => lt (msa m_10 7 (upd (m_10.2.2 7) ((m_10.1 4).toNatClampNeg) a5)) fun (m_12 : MS) => lt (msa m_12 8 (upd (m_12.2.2 8) ((m_12.1 4).toNatClampNeg) a6)) fun (m_14 : MS) => lt (msi m_14 4 ((m_14.1 4) + 1)) fun (m_15 : MS) => m_15
def kX12_adds (m : MS) (a1 : Int32) (a2 : Int32) (a3 : Int32) (a4 : Int32) (a5 : Int32) (a6 : Int32) : Prop := (vp_in (m.1 4) 17) ∧ (lt (msa m 4 (upd (m.2.2 4) ((m.1 4).toNatClampNeg) a2)) fun (m_2 : MS) => (kX12_wayTo m_2 a3 a4 a1) ∧ ((vp_in (m_2.1 4) 17) ∧ (lt (msa m_2 5 (upd (m_2.2.2 5) ((m_2.1 4).toNatClampNeg) (pX12_wayTo m_2 a3 a4 a1))) fun (m_5 : MS) => (vp_in (m_5.1 4) 17) ∧ ((¬ (((m_5.2.2 5) ((m_5.1 4).toNatClampNeg)) + 100) = 0) ∧ ((kX12_weaker m_5 (100000 / (((m_5.2.2 5) ((m_5.1 4).toNatClampNeg)) + 100)) a5) ∧ ((kX12_weaker m_5 (pX12_weaker m_5 (100000 / (((m_5.2.2 5) ((m_5.1 4).toNatClampNeg)) + 100)) a5) a6) ∧ ((vp_in (m_5.1 4) 17) ∧ (lt (msa m_5 6 (upd (m_5.2.2 6) ((m_5.1 4).toNatClampNeg) (pX12_weaker m_5 (pX12_weaker m_5 (100000 / (((m_5.2.2 5) ((m_5.1 4).toNatClampNeg)) + 100)) a5) a6))) fun (m_10 : MS) => (vp_in (m_10.1 4) 17) ∧ (lt (msa m_10 7 (upd (m_10.2.2 7) ((m_10.1 4).toNatClampNeg) a5)) fun (m_12 : MS) => vp_in (m_12.1 4) 17)))))))))
abbrev rX12_adds : Room := { frames := 2, cells := 0, slots := 0, locals := 48 }
set_option maxHeartbeats 4000000 in
set_option maxRecDepth 100000 in
theorem mX12_adds (l : Launch) (dC : Nat → ClassId) (dI : Nat → Nat → Nat) (cI cB cO cL : ClassId) (q : Nat → Nat) (m : MS) (a1 : Int32) (a2 : Int32) (a3 : Int32) (a4 : Int32) (a5 : Int32) (a6 : Int32) (hI : gD (fun _ => True) (mAd q)) (hok : kX12_adds m a1 a2 a3 a4 a5 a6) : Met l yX12_adds wsX12_adds rX12_adds (gP (dC, dI) (tYS cI cB cO cL) (mw q cI m) [.ref (q 0), .int a1, .int a2, .int a3, .int a4, .int a5, .int a6]) (gQv (dC, dI) (fun m9 => mw q cI m9) (wA (mw q cI m)) (pX12_adds m a1 a2 a3 a4 a5 a6)) 0 0 (wA (mw q cI m)) := by
  refine gMet (cc := cX12_adds) (maxL := 7) (ret := none) [(0, .ref (q 0)), (1, .int a1), (2, .int a2), (3, .int a3), (4, .int a4), (5, .int a5), (6, .int a6)] (by decide) rfl rfl rfl ?_
  intro p e s mi below meth c C0 hK hP ls hl
  obtain ⟨hx, hb, hr, hml, hown, hts, hlocks⟩ := id C0
  have hown : s.vm.findClass RX12 = some mi.cls := hown
  have hS : va_S (wA (mw q cI m)) s.heap s.heap [] := va_S.rf
  have hD : gD (wA (mw q cI m)) (mAd q) := gD_wA (ws := mw q cI m) hI
  have hP : va_P (dC, dI) vwCl (mw q cI m) s.heap := hP
  obtain ⟨F, hF⟩ : ∃ F, F = pX12_adds m a1 a2 a3 a4 a5 a6 := ⟨_, rfl⟩
  have hf := hF
  have hin12 : ∀ w ∈ u_ws RX12 TX12 23, w ∈ wsX12_adds := by decide +kernel
  have fl22 := hts (.fieldLink RX12 22 "ClickBenchModel" "kinds" "[I") (by decide +kernel)
  have fl72 := hts (.fieldLink RX12 72 "ClickBenchModel" "listed" "I") (by decide +kernel)
  have fl25 := hts (.fieldLink RX12 25 "ClickBenchModel" "ways" "[I") (by decide +kernel)
  have fl28 := hts (.fieldLink RX12 28 "ClickBenchModel" "strengths" "[I") (by decide +kernel)
  have cn79 := hts (.constant RX12 79 (100000)) (by decide +kernel)
  have fl31 := hts (.fieldLink RX12 31 "ClickBenchModel" "firsts" "[I") (by decide +kernel)
  have fl34 := hts (.fieldLink RX12 34 "ClickBenchModel" "thens" "[I") (by decide +kernel)
  refine lv_aload_n hx hb dX12_adds_0 rfl (lv_at hl 0 rfl) ?_
  refine va_get (D := (dC, dI)) (ci := 9) (v := .ref (q 5)) (C := RX12) (T := TX12) (N := 23) hx hb hts hin12 hown hK hP 0 rfl rfl 8 (by decide) fl22 (fun _ h9 => h9) rfl dX12_adds_1 ?_
  refine lv_aload_n hx hb dX12_adds_4 rfl (lv_at hl 0 rfl) ?_
  refine va_get (D := (dC, dI)) (ci := 9) (v := .int (m.1 4)) (C := RX12) (T := TX12) (N := 23) hx hb hts hin12 hown hK hP 0 rfl rfl 13 (by decide) fl72 (fun _ h9 => h9) rfl dX12_adds_5 ?_
  refine lv_iload_n hx hb dX12_adds_8 rfl (lv_at hl 2 rfl) ?_
  obtain ⟨h1, hok⟩ := hok
  refine va_iast (D := (dC, dI)) (tys := (tYS cI cB cO cL)) hx hb hK hP (gD_va hD rfl) hS 5 0 rfl rfl h1 dX12_adds_9 (fun H locs hP _ hS => ?_)
  obtain ⟨m_2, em_2⟩ : ∃ z9 : MS, z9 = msa m 4 (upd (m.2.2 4) ((m.1 4).toNatClampNeg) a2) := ⟨_, rfl⟩
  have hP : va_P (dC, dI) vwCl (mw q cI m_2) H := by rw [em_2]; exact hP
  have hf := lt_eq em_2 hf
  have hok := lt_ok em_2 hok
  refine lv_aload_n hx hb dX12_adds_10 rfl (lv_at hl 0 rfl) ?_
  refine va_get (D := (dC, dI)) (ci := 9) (v := .ref (q 6)) (C := RX12) (T := TX12) (N := 23) hx hb hts hin12 hown hK hP 0 rfl rfl 9 (by decide) fl25 (fun _ h9 => h9) rfl dX12_adds_11 ?_
  refine lv_aload_n hx hb dX12_adds_14 rfl (lv_at hl 0 rfl) ?_
  refine va_get (D := (dC, dI)) (ci := 9) (v := .int (m_2.1 4)) (C := RX12) (T := TX12) (N := 23) hx hb hts hin12 hown hK hP 0 rfl rfl 13 (by decide) fl72 (fun _ h9 => h9) rfl dX12_adds_15 ?_
  refine lv_aload_n hx hb dX12_adds_18 rfl (lv_at hl 0 rfl) ?_
  refine lv_iload_n hx hb dX12_adds_19 rfl (lv_at hl 3 rfl) ?_
  refine lv_iload hx hb dX12_adds_20 (lv_at hl 4 rfl) ?_
  refine lv_iload_n hx hb dX12_adds_22 rfl (lv_at hl 1 rfl) ?_
  obtain ⟨h3, hok⟩ := hok
  refine gro_i (va_runV (As := [.int a3, .int a4, .int a1]) (rest := [.int (m_2.1 4), .ref (q 6)]) ⟨hx, hb, hml, hown, hts⟩ (mX12_wayTo l dC dI cI cB cO cL q m_2 a3 a4 a1  h3) (cwV 3 hts gX12_adds_X12_wayTo rfl rfl rfl (by decide +kernel) ⟨Nat.le_of_ble_eq_true rfl, Nat.le_of_ble_eq_true rfl⟩) ⟨gP_blind, va_recv hK hP (ci := 9) (q0 := 0) rfl rfl, gP_ok hP hK⟩ rfl rfl hl.1 rfl (lv_room (Nat.le_of_ble_eq_true rfl)) dX12_adds_23 ⟨Nat.zero_le _, Nat.zero_le _⟩) ?_
  obtain ⟨h4, hok⟩ := hok
  refine va_iast (D := (dC, dI)) (tys := (tYS cI cB cO cL)) hx hb hK hP (gD_va hD rfl) hS 6 0 rfl rfl h4 dX12_adds_26 (fun H locs hP _ hS => ?_)
  obtain ⟨m_5, em_5⟩ : ∃ z9 : MS, z9 = msa m_2 5 (upd (m_2.2.2 5) ((m_2.1 4).toNatClampNeg) (pX12_wayTo m_2 a3 a4 a1)) := ⟨_, rfl⟩
  have hP : va_P (dC, dI) vwCl (mw q cI m_5) H := by rw [em_5]; exact hP
  have hf := lt_eq em_5 hf
  have hok := lt_ok em_5 hok
  refine lv_aload_n hx hb dX12_adds_27 rfl (lv_at hl 0 rfl) ?_
  refine va_get (D := (dC, dI)) (ci := 9) (v := .ref (q 7)) (C := RX12) (T := TX12) (N := 23) hx hb hts hin12 hown hK hP 0 rfl rfl 10 (by decide) fl28 (fun _ h9 => h9) rfl dX12_adds_28 ?_
  refine lv_aload_n hx hb dX12_adds_31 rfl (lv_at hl 0 rfl) ?_
  refine va_get (D := (dC, dI)) (ci := 9) (v := .int (m_5.1 4)) (C := RX12) (T := TX12) (N := 23) hx hb hts hin12 hown hK hP 0 rfl rfl 13 (by decide) fl72 (fun _ h9 => h9) rfl dX12_adds_32 ?_
  refine lv_aload_n hx hb dX12_adds_35 rfl (lv_at hl 0 rfl) ?_
  refine lv_aload_n hx hb dX12_adds_36 rfl (lv_at hl 0 rfl) ?_
  refine lv_ldc (v := 100000) hx hb hown cn79 dX12_adds_37 ?_
  refine lv_aload_n hx hb dX12_adds_39 rfl (lv_at hl 0 rfl) ?_
  refine va_get (D := (dC, dI)) (ci := 9) (v := .ref (q 6)) (C := RX12) (T := TX12) (N := 23) hx hb hts hin12 hown hK hP 0 rfl rfl 9 (by decide) fl25 (fun _ h9 => h9) rfl dX12_adds_40 ?_
  refine lv_aload_n hx hb dX12_adds_43 rfl (lv_at hl 0 rfl) ?_
  refine va_get (D := (dC, dI)) (ci := 9) (v := .int (m_5.1 4)) (C := RX12) (T := TX12) (N := 23) hx hb hts hin12 hown hK hP 0 rfl rfl 13 (by decide) fl72 (fun _ h9 => h9) rfl dX12_adds_44 ?_
  obtain ⟨h16, hok⟩ := hok
  refine va_iald (D := (dC, dI)) (tys := (tYS cI cB cO cL)) hx hb hK hP 6 0 rfl rfl h16 dX12_adds_47 ?_
  refine lv_bipush (v := 100) hx hb dX12_adds_48 (by decide) ?_
  refine lv_iadd hx hb dX12_adds_50 ?_
  obtain ⟨h6, hok⟩ := hok
  refine lv_idiv hx hb dX12_adds_51 h6 ?_
  refine lv_iload hx hb dX12_adds_52 (lv_at hl 5 rfl) ?_
  obtain ⟨h7, hok⟩ := hok
  refine gro_i (va_runV (As := [.int (100000 / (((m_5.2.2 5) ((m_5.1 4).toNatClampNeg)) + 100)), .int a5]) (rest := [.ref (q 0), .int (m_5.1 4), .ref (q 7)]) ⟨hx, hb, hml, hown, hts⟩ (mX12_weaker l dC dI cI cB cO cL q m_5 (100000 / (((m_5.2.2 5) ((m_5.1 4).toNatClampNeg)) + 100)) a5  h7) (cwV 2 hts gX12_adds_X12_weaker rfl rfl rfl (by decide +kernel) ⟨Nat.le_of_ble_eq_true rfl, Nat.le_of_ble_eq_true rfl⟩) ⟨gP_blind, va_recv hK hP (ci := 9) (q0 := 0) rfl rfl, gP_ok hP hK⟩ rfl rfl hl.1 rfl (lv_room (Nat.le_of_ble_eq_true rfl)) dX12_adds_54 ⟨Nat.zero_le _, Nat.zero_le _⟩) ?_
  refine lv_iload hx hb dX12_adds_57 (lv_at hl 6 rfl) ?_
  obtain ⟨h8, hok⟩ := hok
  refine gro_i (va_runV (As := [.int (pX12_weaker m_5 (100000 / (((m_5.2.2 5) ((m_5.1 4).toNatClampNeg)) + 100)) a5), .int a6]) (rest := [.int (m_5.1 4), .ref (q 7)]) ⟨hx, hb, hml, hown, hts⟩ (mX12_weaker l dC dI cI cB cO cL q m_5 (pX12_weaker m_5 (100000 / (((m_5.2.2 5) ((m_5.1 4).toNatClampNeg)) + 100)) a5) a6  h8) (cwV 2 hts gX12_adds_X12_weaker rfl rfl rfl (by decide +kernel) ⟨Nat.le_of_ble_eq_true rfl, Nat.le_of_ble_eq_true rfl⟩) ⟨gP_blind, va_recv hK hP (ci := 9) (q0 := 0) rfl rfl, gP_ok hP hK⟩ rfl rfl hl.1 rfl (lv_room (Nat.le_of_ble_eq_true rfl)) dX12_adds_59 ⟨Nat.zero_le _, Nat.zero_le _⟩) ?_
  obtain ⟨h9, hok⟩ := hok
  refine va_iast (D := (dC, dI)) (tys := (tYS cI cB cO cL)) hx hb hK hP (gD_va hD rfl) hS 7 0 rfl rfl h9 dX12_adds_62 (fun H locs hP _ hS => ?_)
  obtain ⟨m_10, em_10⟩ : ∃ z9 : MS, z9 = msa m_5 6 (upd (m_5.2.2 6) ((m_5.1 4).toNatClampNeg) (pX12_weaker m_5 (pX12_weaker m_5 (100000 / (((m_5.2.2 5) ((m_5.1 4).toNatClampNeg)) + 100)) a5) a6)) := ⟨_, rfl⟩
  have hP : va_P (dC, dI) vwCl (mw q cI m_10) H := by rw [em_10]; exact hP
  have hf := lt_eq em_10 hf
  have hok := lt_ok em_10 hok
  refine lv_aload_n hx hb dX12_adds_63 rfl (lv_at hl 0 rfl) ?_
  refine va_get (D := (dC, dI)) (ci := 9) (v := .ref (q 8)) (C := RX12) (T := TX12) (N := 23) hx hb hts hin12 hown hK hP 0 rfl rfl 11 (by decide) fl31 (fun _ h9 => h9) rfl dX12_adds_64 ?_
  refine lv_aload_n hx hb dX12_adds_67 rfl (lv_at hl 0 rfl) ?_
  refine va_get (D := (dC, dI)) (ci := 9) (v := .int (m_10.1 4)) (C := RX12) (T := TX12) (N := 23) hx hb hts hin12 hown hK hP 0 rfl rfl 13 (by decide) fl72 (fun _ h9 => h9) rfl dX12_adds_68 ?_
  refine lv_iload hx hb dX12_adds_71 (lv_at hl 5 rfl) ?_
  obtain ⟨h11, hok⟩ := hok
  refine va_iast (D := (dC, dI)) (tys := (tYS cI cB cO cL)) hx hb hK hP (gD_va hD rfl) hS 8 0 rfl rfl h11 dX12_adds_73 (fun H locs hP _ hS => ?_)
  obtain ⟨m_12, em_12⟩ : ∃ z9 : MS, z9 = msa m_10 7 (upd (m_10.2.2 7) ((m_10.1 4).toNatClampNeg) a5) := ⟨_, rfl⟩
  have hP : va_P (dC, dI) vwCl (mw q cI m_12) H := by rw [em_12]; exact hP
  have hf := lt_eq em_12 hf
  have hok := lt_ok em_12 hok
  refine lv_aload_n hx hb dX12_adds_74 rfl (lv_at hl 0 rfl) ?_
  refine va_get (D := (dC, dI)) (ci := 9) (v := .ref (q 9)) (C := RX12) (T := TX12) (N := 23) hx hb hts hin12 hown hK hP 0 rfl rfl 12 (by decide) fl34 (fun _ h9 => h9) rfl dX12_adds_75 ?_
  refine lv_aload_n hx hb dX12_adds_78 rfl (lv_at hl 0 rfl) ?_
  refine va_get (D := (dC, dI)) (ci := 9) (v := .int (m_12.1 4)) (C := RX12) (T := TX12) (N := 23) hx hb hts hin12 hown hK hP 0 rfl rfl 13 (by decide) fl72 (fun _ h9 => h9) rfl dX12_adds_79 ?_
  refine lv_iload hx hb dX12_adds_82 (lv_at hl 6 rfl) ?_
  have h13 : vp_in (m_12.1 4) 17 := hok
  refine va_iast (D := (dC, dI)) (tys := (tYS cI cB cO cL)) hx hb hK hP (gD_va hD rfl) hS 9 0 rfl rfl h13 dX12_adds_84 (fun H locs hP _ hS => ?_)
  obtain ⟨m_14, em_14⟩ : ∃ z9 : MS, z9 = msa m_12 8 (upd (m_12.2.2 8) ((m_12.1 4).toNatClampNeg) a6) := ⟨_, rfl⟩
  have hP : va_P (dC, dI) vwCl (mw q cI m_14) H := by rw [em_14]; exact hP
  have hf := lt_eq em_14 hf
  refine lv_aload_n hx hb dX12_adds_85 rfl (lv_at hl 0 rfl) ?_
  refine lv_dup hx hb dX12_adds_86 rfl ?_
  refine va_get (D := (dC, dI)) (ci := 9) (v := .int (m_14.1 4)) (C := RX12) (T := TX12) (N := 23) hx hb hts hin12 hown hK hP 0 rfl rfl 13 (by decide) fl72 (fun _ h9 => h9) rfl dX12_adds_87 ?_
  refine lv_iconst (v := 1) hx hb dX12_adds_90 (by decide) ?_
  refine lv_iadd hx hb dX12_adds_91 ?_
  refine va_put (D := (dC, dI)) (ci := 9) (v := .int ((m_14.1 4) + 1)) (ty := .int) (C := RX12) (T := TX12) (N := 23) hx hb hts hin12 tyX12 tyX12_ok nmX12 hown hK hP (gD_va hD rfl) hS 0 rfl rfl 13 (by decide) fl72 (fun _ h9 => h9) rfl (by decide +kernel) rfl rfl (Nat.le_of_ble_eq_true rfl) dX12_adds_92 (fun H locs hP _ hS => ?_)
  obtain ⟨m_15, em_15⟩ : ∃ z9 : MS, z9 = msi m_14 4 ((m_14.1 4) + 1) := ⟨_, rfl⟩
  have hP : va_P (dC, dI) vwCl (mw q cI m_15) H := by rw [em_15]; exact hP
  have hf := lt_eq em_15 hf
  exact e_mv C0 (hf.symm.trans hF) hP hS dX12_adds_95
