noncomputable def pX12_blameOf_L96 (m : MS) (q_14 : Int32 → Int32 → Int32 → Int32 → Int32) (v1_96 : Int32) (v2_96 : Int32) (v3_96 : Int32) (v4_96 : Int32) : Int32 := lt (v4_96 + 1) fun (x4 : Int32) => q_14 v1_96 v2_96 v3_96 x4
def kX12_blameOf_L96 (m : MS) (Q_14 : Int32 → Int32 → Int32 → Int32 → Prop) (v1_96 : Int32) (v2_96 : Int32) (v3_96 : Int32) (v4_96 : Int32) : Prop := lt (v4_96 + 1) fun (x4 : Int32) => Q_14 v1_96 v2_96 v3_96 x4
noncomputable def pX12_blameOf_L94 (m : MS) (q_14 : Int32 → Int32 → Int32 → Int32 → Int32) (v1_94 : Int32) (v2_94 : Int32) (v4_94 : Int32) (t0_94 : Int32) (t1_94 : Bool) : Int32 := lt (t0_94 + (bz t1_94)) fun (x13 : Int32) => pX12_blameOf_L96 m q_14 v1_94 v2_94 x13 v4_94
def kX12_blameOf_L94 (m : MS) (Q_14 : Int32 → Int32 → Int32 → Int32 → Prop) (v1_94 : Int32) (v2_94 : Int32) (v4_94 : Int32) (t0_94 : Int32) (t1_94 : Bool) : Prop := lt (t0_94 + (bz t1_94)) fun (x13 : Int32) => kX12_blameOf_L96 m Q_14 v1_94 v2_94 x13 v4_94
noncomputable def bX12_blameOf_L14 (m : MS)  (q_14 : Int32 → Int32 → Int32 → Int32 → Int32) (v1_14 : Int32) (v2_14 : Int32) (v3_14 : Int32) (v4_14 : Int32) : Int32 := if ((m.2.2 0) 2) ≤ v4_14 then (v3_14) else (if v4_14 = v1_14 then (pX12_blameOf_L96 m q_14 v1_14 v2_14 v3_14 v4_14) else (if (pX12_arePair m v1_14 v4_14 (-1000000000)) = true then (lt (pX12_apart ((pX12_of m v1_14 5) - (pX12_of m v4_14 5)) ((pX12_timeFrom m v2_14 v1_14) - (pX12_timeFrom m v2_14 v4_14))) fun (x11 : Int32) => if x11 ≤ ((m.2.2 0) 13) then (pX12_blameOf_L94 m q_14 v1_14 v2_14 v4_14 v3_14 false) else (pX12_blameOf_L94 m q_14 v1_14 v2_14 v4_14 v3_14 true)) else (pX12_blameOf_L96 m q_14 v1_14 v2_14 v3_14 v4_14)))
noncomputable def pX12_blameOf_L14 (m : MS)  : Nat → Int32 → Int32 → Int32 → Int32 → Int32
  | 0 => fun _ _ _ _ => (0)
  | n + 1 => bX12_blameOf_L14 m  (pX12_blameOf_L14 m  n)
def kbX12_blameOf_L14 (m : MS)  (Q_14 : Int32 → Int32 → Int32 → Int32 → Prop) (v1_14 : Int32) (v2_14 : Int32) (v3_14 : Int32) (v4_14 : Int32) : Prop := if ((m.2.2 0) 2) ≤ v4_14 then (True) else (if v4_14 = v1_14 then (kX12_blameOf_L96 m Q_14 v1_14 v2_14 v3_14 v4_14) else ((kX12_arePair m v1_14 v4_14 (-1000000000)) ∧ (if (pX12_arePair m v1_14 v4_14 (-1000000000)) = true then ((kX12_of m v1_14 5) ∧ ((kX12_of m v4_14 5) ∧ ((kX12_timeFrom m v2_14 v1_14) ∧ ((kX12_timeFrom m v2_14 v4_14) ∧ (lt (pX12_apart ((pX12_of m v1_14 5) - (pX12_of m v4_14 5)) ((pX12_timeFrom m v2_14 v1_14) - (pX12_timeFrom m v2_14 v4_14))) fun (x11 : Int32) => if x11 ≤ ((m.2.2 0) 13) then (kX12_blameOf_L94 m Q_14 v1_14 v2_14 v4_14 v3_14 false) else (kX12_blameOf_L94 m Q_14 v1_14 v2_14 v4_14 v3_14 true)))))) else (kX12_blameOf_L96 m Q_14 v1_14 v2_14 v3_14 v4_14))))
noncomputable def kX12_blameOf_L14 (m : MS)  : Nat → Int32 → Int32 → Int32 → Int32 → Prop
  | 0 => fun _ _ _ _ => False
  | n + 1 => kbX12_blameOf_L14 m  (kX12_blameOf_L14 m  n)
noncomputable def pX12_blameOf (m : MS) (a1 : Int32) (a2 : Int32) : Int32 := if a2 = (-1000000000) then ((-1000000000)) else (pX12_blameOf_L14 m fu a1 a2 0 0)
def kX12_blameOf (m : MS) (a1 : Int32) (a2 : Int32) : Prop := if a2 = (-1000000000) then (True) else (kX12_blameOf_L14 m fu a1 a2 0 0)
abbrev rX12_blameOf : Room := { frames := 3, cells := 0, slots := 0, locals := 70 }
set_option maxHeartbeats 4000000 in
set_option maxRecDepth 100000 in
theorem mX12_blameOf (l : Launch) (dC : Nat → ClassId) (dI : Nat → Nat → Nat) (cI cB cO cL : ClassId) (q : Nat → Nat) (m : MS) (a1 : Int32) (a2 : Int32) (hok : kX12_blameOf m a1 a2) : Met l yX12_blameOf wsX12_blameOf rX12_blameOf (gP (dC, dI) (tYS cI cB cO cL) (mw q cI m) [.ref (q 0), .int a1, .int a2]) (gRi (pX12_blameOf m a1 a2)) 0 0 (fun _ => False) := by
  refine gMet (cc := cX12_blameOf) (maxL := 6) (ret := some .int) [(0, .ref (q 0)), (1, .int a1), (2, .int a2)] (by decide) rfl rfl rfl ?_
  intro p e s mi below meth c C0 hK hP ls hl
  obtain ⟨hx, hb, hr, hml, hown, hts, hlocks⟩ := id C0
  have hown : s.vm.findClass RX12 = some mi.cls := hown
  obtain ⟨F, hF⟩ : ∃ F, F = pX12_blameOf m a1 a2 := ⟨_, rfl⟩
  have hf := hF
  have hin12 : ∀ w ∈ u_ws RX12 TX12 23, w ∈ wsX12_blameOf := by decide +kernel
  have cn71 := hts (.constant RX12 71 (-1000000000)) (by decide +kernel)
  have fl7 := hts (.fieldLink RX12 7 "ClickBenchModel" "s" "[I") (by decide +kernel)
  have J_14 : ∀ (n_14 : Nat) (v1_14 : Int32) (v2_14 : Int32) (v3_14 : Int32) (v4_14 : Int32), ∀ ls : Array Slot, lv_has ls 6 [(0, .ref (q 0)), (1, .int v1_14), (2, .int v2_14), (3, .int v3_14), (4, .int v4_14)] → F = pX12_blameOf_L14 m n_14 v1_14 v2_14 v3_14 v4_14 → kX12_blameOf_L14 m n_14 v1_14 v2_14 v3_14 v4_14 → W p l e rX12_blameOf s mi ([.ref (q 0), .int a1, .int a2] : List Value).toArray below meth c s.heap [] 0 0 (MQ below (gRi (pX12_blameOf m a1 a2)) ([.ref (q 0), .int a1, .int a2] : List Value).toArray s 0 0 (fun _ => False)) (F0 mi 14 ls []) := by
    intro n_14
    induction n_14 with
    | zero =>
      intro v1_14 v2_14 v3_14 v4_14 ls hl hf hok
      exact absurd hok (fun h => h)
    | succ n_14 ih_14 =>
      have J_96 : ∀ (v1_96 : Int32) (v2_96 : Int32) (v3_96 : Int32) (v4_96 : Int32), ∀ ls : Array Slot, lv_has ls 6 [(0, .ref (q 0)), (1, .int v1_96), (2, .int v2_96), (3, .int v3_96), (4, .int v4_96)] → F = pX12_blameOf_L96 m (pX12_blameOf_L14 m n_14) v1_96 v2_96 v3_96 v4_96 → kX12_blameOf_L96 m (kX12_blameOf_L14 m n_14) v1_96 v2_96 v3_96 v4_96 → W p l e rX12_blameOf s mi ([.ref (q 0), .int a1, .int a2] : List Value).toArray below meth c s.heap [] 0 0 (MQ below (gRi (pX12_blameOf m a1 a2)) ([.ref (q 0), .int a1, .int a2] : List Value).toArray s 0 0 (fun _ => False)) (F0 mi 96 ls []) := by
        intro v1_96 v2_96 v3_96 v4_96 ls hl hf hok
        obtain ⟨x4, ex4⟩ : ∃ y : Int32, y = v4_96 + 1 := ⟨_, rfl⟩
        refine lv_iinc (v := x4) (lv' := [(4, .int x4), (0, .ref (q 0)), (1, .int v1_96), (2, .int v2_96), (3, .int v3_96)]) hx hb dX12_blameOf_96 hl (k := 4) rfl (by rw [ex4]; rfl) (by decide) rfl (fun ls hl => ?_)
        have hf := lt_eq ex4 hf
        have hok := lt_ok ex4 hok
        refine lv_goto (tgt := 14) hx hb dX12_blameOf_99 (by decide) ?_
        exact ih_14 v1_96 v2_96 v3_96 x4 _ (lv_sub hl [1, 2, 3, 4, 0] rfl) hf hok
      have J_94 : ∀ (v1_94 : Int32) (v2_94 : Int32) (v4_94 : Int32) (t0_94 : Int32) (t1_94 : Bool), ∀ ls : Array Slot, lv_has ls 6 [(0, .ref (q 0)), (1, .int v1_94), (2, .int v2_94), (4, .int v4_94)] → F = pX12_blameOf_L94 m (pX12_blameOf_L14 m n_14) v1_94 v2_94 v4_94 t0_94 t1_94 → kX12_blameOf_L94 m (kX12_blameOf_L14 m n_14) v1_94 v2_94 v4_94 t0_94 t1_94 → W p l e rX12_blameOf s mi ([.ref (q 0), .int a1, .int a2] : List Value).toArray below meth c s.heap [] 0 0 (MQ below (gRi (pX12_blameOf m a1 a2)) ([.ref (q 0), .int a1, .int a2] : List Value).toArray s 0 0 (fun _ => False)) (F0 mi 94 ls [.int (bz t1_94), .int t0_94]) := by
        intro v1_94 v2_94 v4_94 t0_94 t1_94 ls hl hf hok
        refine lv_iadd hx hb dX12_blameOf_94 ?_
        refine lv_topi (fun x13 ex13 => ?_)
        have hf := lt_eq ex13 hf
        have hok := lt_ok ex13 hok
        refine lv_istore_n (lv' := [(3, .int x13), (0, .ref (q 0)), (1, .int v1_94), (2, .int v2_94), (4, .int v4_94)]) hx hb dX12_blameOf_95 rfl hl (by decide) rfl (fun ls hl => ?_)
        exact J_96 v1_94 v2_94 x13 v4_94 _ (lv_sub hl [1, 2, 3, 0, 4] rfl) hf hok
      intro v1_14 v2_14 v3_14 v4_14 ls hl hf hok
      have hf : F = bX12_blameOf_L14 m (pX12_blameOf_L14 m n_14) v1_14 v2_14 v3_14 v4_14 := hf
      have hok : kbX12_blameOf_L14 m (kX12_blameOf_L14 m n_14) v1_14 v2_14 v3_14 v4_14 := hok
      refine lv_iload hx hb dX12_blameOf_14 (lv_at hl 4 rfl) ?_
      refine lv_aload_n hx hb dX12_blameOf_16 rfl (lv_at hl 0 rfl) ?_
      refine va_get (D := (dC, dI)) (ci := 9) (v := .ref (q 1)) (C := RX12) (T := TX12) (N := 23) hx hb hts hin12 hown hK hP 0 rfl rfl 0 (by decide) fl7 (fun _ h9 => h9) rfl dX12_blameOf_17 ?_
      refine lv_iconst (v := 2) hx hb dX12_blameOf_20 (by decide) ?_
      refine g_ialdK (D := (dC, dI)) (tys := (tYS cI cB cO cL)) (k := 2) hx hb hK hP 1 0 rfl rfl (by decide) (by decide) (by decide) dX12_blameOf_21 ?_
      refine lv_icmp_ge (tgt := 102) hx hb dX12_blameOf_22 (by decide) (fun c2 => ?_) (fun c2 => ?_)
      · have hf := it_eq c2 hf
        refine lv_iload_n hx hb dX12_blameOf_102 rfl (lv_at hl 3 rfl) ?_
        exact e_ri C0 (hf.symm.trans hF) dX12_blameOf_103
      · have hf := ie_eq c2 hf
        have hok := ie_ok c2 hok
        refine lv_iload hx hb dX12_blameOf_25 (lv_at hl 4 rfl) ?_
        refine lv_iload_n hx hb dX12_blameOf_27 rfl (lv_at hl 1 rfl) ?_
        refine lv_icmp_eq (tgt := 96) hx hb dX12_blameOf_28 (by decide) (fun c3 => ?_) (fun c3 => ?_)
        · have hf := it_eq c3 hf
          have hok := it_ok c3 hok
          exact J_96 v1_14 v2_14 v3_14 v4_14 _ (lv_sub hl [0, 1, 2, 3, 4] rfl) hf hok
        · have hf := ie_eq c3 hf
          have hok := ie_ok c3 hok
          refine lv_aload_n hx hb dX12_blameOf_31 rfl (lv_at hl 0 rfl) ?_
          refine lv_iload_n hx hb dX12_blameOf_32 rfl (lv_at hl 1 rfl) ?_
          refine lv_iload hx hb dX12_blameOf_33 (lv_at hl 4 rfl) ?_
          refine lv_ldc (v := (-1000000000)) hx hb hown cn71 dX12_blameOf_35 ?_
          obtain ⟨h5, hok⟩ := hok
          refine gro_i (va_runV (As := [.int v1_14, .int v4_14, .int (-1000000000)]) (rest := []) ⟨hx, hb, hml, hown, hts⟩ (mX12_arePair l dC dI cI cB cO cL q m v1_14 v4_14 (-1000000000)  h5) (cwV 3 hts gX12_blameOf_X12_arePair rfl rfl rfl (by decide +kernel) ⟨Nat.le_of_ble_eq_true rfl, Nat.le_of_ble_eq_true rfl⟩) ⟨gP_blind, va_recv hK hP (ci := 9) (q0 := 0) rfl rfl, gP_ok hP hK⟩ rfl rfl hl.1 rfl (lv_room (Nat.le_of_ble_eq_true rfl)) dX12_blameOf_37 ⟨Nat.zero_le _, Nat.zero_le _⟩) ?_
          refine lv_if_eq (tgt := 96) hx hb dX12_blameOf_40 (by decide) (fun c6 => ?_) (fun c6 => ?_)
          · have c6 := bz_f c6
            have hf := ie_eq c6 hf
            have hok := ie_ok c6 hok
            exact J_96 v1_14 v2_14 v3_14 v4_14 _ (lv_sub hl [0, 1, 2, 3, 4] rfl) hf hok
          · have c6 := bz_t c6
            have hf := it_eq c6 hf
            have hok := it_ok c6 hok
            refine lv_aload_n hx hb dX12_blameOf_43 rfl (lv_at hl 0 rfl) ?_
            refine lv_iload_n hx hb dX12_blameOf_44 rfl (lv_at hl 1 rfl) ?_
            refine lv_iconst (v := 5) hx hb dX12_blameOf_45 (by decide) ?_
            obtain ⟨h7, hok⟩ := hok
            refine gro_i (va_runV (As := [.int v1_14, .int 5]) (rest := []) ⟨hx, hb, hml, hown, hts⟩ (mX12_of l dC dI cI cB cO cL q m v1_14 5  h7) (cwV 2 hts gX12_blameOf_X12_of rfl rfl rfl (by decide +kernel) ⟨Nat.le_of_ble_eq_true rfl, Nat.le_of_ble_eq_true rfl⟩) ⟨gP_blind, va_recv hK hP (ci := 9) (q0 := 0) rfl rfl, gP_ok hP hK⟩ rfl rfl hl.1 rfl (lv_room (Nat.le_of_ble_eq_true rfl)) dX12_blameOf_46 ⟨Nat.zero_le _, Nat.zero_le _⟩) ?_
            refine lv_aload_n hx hb dX12_blameOf_49 rfl (lv_at hl 0 rfl) ?_
            refine lv_iload hx hb dX12_blameOf_50 (lv_at hl 4 rfl) ?_
            refine lv_iconst (v := 5) hx hb dX12_blameOf_52 (by decide) ?_
            obtain ⟨h8, hok⟩ := hok
            refine gro_i (va_runV (As := [.int v4_14, .int 5]) (rest := [.int (pX12_of m v1_14 5)]) ⟨hx, hb, hml, hown, hts⟩ (mX12_of l dC dI cI cB cO cL q m v4_14 5  h8) (cwV 2 hts gX12_blameOf_X12_of rfl rfl rfl (by decide +kernel) ⟨Nat.le_of_ble_eq_true rfl, Nat.le_of_ble_eq_true rfl⟩) ⟨gP_blind, va_recv hK hP (ci := 9) (q0 := 0) rfl rfl, gP_ok hP hK⟩ rfl rfl hl.1 rfl (lv_room (Nat.le_of_ble_eq_true rfl)) dX12_blameOf_53 ⟨Nat.zero_le _, Nat.zero_le _⟩) ?_
            refine lv_isub hx hb dX12_blameOf_56 ?_
            refine lv_aload_n hx hb dX12_blameOf_57 rfl (lv_at hl 0 rfl) ?_
            refine lv_iload_n hx hb dX12_blameOf_58 rfl (lv_at hl 2 rfl) ?_
            refine lv_iload_n hx hb dX12_blameOf_59 rfl (lv_at hl 1 rfl) ?_
            obtain ⟨h9, hok⟩ := hok
            refine gro_i (va_runV (As := [.int v2_14, .int v1_14]) (rest := [.int ((pX12_of m v1_14 5) - (pX12_of m v4_14 5))]) ⟨hx, hb, hml, hown, hts⟩ (mX12_timeFrom l dC dI cI cB cO cL q m v2_14 v1_14  h9) (cwV 2 hts gX12_blameOf_X12_timeFrom rfl rfl rfl (by decide +kernel) ⟨Nat.le_of_ble_eq_true rfl, Nat.le_of_ble_eq_true rfl⟩) ⟨gP_blind, va_recv hK hP (ci := 9) (q0 := 0) rfl rfl, gP_ok hP hK⟩ rfl rfl hl.1 rfl (lv_room (Nat.le_of_ble_eq_true rfl)) dX12_blameOf_60 ⟨Nat.zero_le _, Nat.zero_le _⟩) ?_
            refine lv_aload_n hx hb dX12_blameOf_63 rfl (lv_at hl 0 rfl) ?_
            refine lv_iload_n hx hb dX12_blameOf_64 rfl (lv_at hl 2 rfl) ?_
            refine lv_iload hx hb dX12_blameOf_65 (lv_at hl 4 rfl) ?_
            obtain ⟨h10, hok⟩ := hok
            refine gro_i (va_runV (As := [.int v2_14, .int v4_14]) (rest := [.int (pX12_timeFrom m v2_14 v1_14), .int ((pX12_of m v1_14 5) - (pX12_of m v4_14 5))]) ⟨hx, hb, hml, hown, hts⟩ (mX12_timeFrom l dC dI cI cB cO cL q m v2_14 v4_14  h10) (cwV 2 hts gX12_blameOf_X12_timeFrom rfl rfl rfl (by decide +kernel) ⟨Nat.le_of_ble_eq_true rfl, Nat.le_of_ble_eq_true rfl⟩) ⟨gP_blind, va_recv hK hP (ci := 9) (q0 := 0) rfl rfl, gP_ok hP hK⟩ rfl rfl hl.1 rfl (lv_room (Nat.le_of_ble_eq_true rfl)) dX12_blameOf_67 ⟨Nat.zero_le _, Nat.zero_le _⟩) ?_
            refine lv_isub hx hb dX12_blameOf_70 ?_
            refine gro_i (va_runS (As := [.int ((pX12_of m v1_14 5) - (pX12_of m v4_14 5)), .int ((pX12_timeFrom m v2_14 v1_14) - (pX12_timeFrom m v2_14 v4_14))]) (rest := []) ⟨hx, hb, hml, hown, hts⟩ (mX12_apart l dC dI cI cB cO cL  ((pX12_of m v1_14 5) - (pX12_of m v4_14 5)) ((pX12_timeFrom m v2_14 v1_14) - (pX12_timeFrom m v2_14 v4_14))  ) (va_cwS 2 hts gX12_blameOf_X12_apart rfl rfl rfl (by decide +kernel) ⟨Nat.le_of_ble_eq_true rfl, Nat.le_of_ble_eq_true rfl⟩) ⟨gP_blind, gP_ok va_P_nil hK⟩ rfl rfl hl.1 rfl (lv_room (Nat.le_of_ble_eq_true rfl)) dX12_blameOf_71 ⟨Nat.zero_le _, Nat.zero_le _⟩) ?_
            refine lv_topi (fun x11 ex11 => ?_)
            have hf := lt_eq ex11 hf
            have hok := lt_ok ex11 hok
            refine lv_istore (lv' := [(5, .int x11), (0, .ref (q 0)), (1, .int v1_14), (2, .int v2_14), (3, .int v3_14), (4, .int v4_14)]) hx hb dX12_blameOf_74 hl (by decide) rfl (fun ls hl => ?_)
            refine lv_iload_n hx hb dX12_blameOf_76 rfl (lv_at hl 4 rfl) ?_
            refine lv_iload hx hb dX12_blameOf_77 (lv_at hl 0 rfl) ?_
            refine lv_aload_n hx hb dX12_blameOf_79 rfl (lv_at hl 1 rfl) ?_
            refine va_get (D := (dC, dI)) (ci := 9) (v := .ref (q 1)) (C := RX12) (T := TX12) (N := 23) hx hb hts hin12 hown hK hP 0 rfl rfl 0 (by decide) fl7 (fun _ h9 => h9) rfl dX12_blameOf_80 ?_
            refine lv_bipush (v := 13) hx hb dX12_blameOf_83 (by decide) ?_
            refine g_ialdK (D := (dC, dI)) (tys := (tYS cI cB cO cL)) (k := 13) hx hb hK hP 1 0 rfl rfl (by decide) (by decide) (by decide) dX12_blameOf_85 ?_
            refine lv_icmp_le (tgt := 93) hx hb dX12_blameOf_86 (by decide) (fun c12 => ?_) (fun c12 => ?_)
            · have hf := it_eq c12 hf
              have hok := it_ok c12 hok
              refine lv_iconst (v := 0) hx hb dX12_blameOf_93 (by decide) ?_
              exact J_94 v1_14 v2_14 v4_14 v3_14 false _ (lv_sub hl [1, 2, 3, 5] rfl) hf hok
            · have hf := ie_eq c12 hf
              have hok := ie_ok c12 hok
              refine lv_iconst (v := 1) hx hb dX12_blameOf_89 (by decide) ?_
              refine lv_goto (tgt := 94) hx hb dX12_blameOf_90 (by decide) ?_
              exact J_94 v1_14 v2_14 v4_14 v3_14 true _ (lv_sub hl [1, 2, 3, 5] rfl) hf hok
  refine lv_iload_n hx hb dX12_blameOf_0 rfl (lv_at hl 2 rfl) ?_
  refine lv_ldc (v := (-1000000000)) hx hb hown cn71 dX12_blameOf_1 ?_
  refine lv_icmp_ne (tgt := 9) hx hb dX12_blameOf_3 (by decide) (fun c1 => ?_) (fun c1 => ?_)
  · have hf := ie_eq c1 hf
    have hok := ie_ok c1 hok
    refine lv_iconst (v := 0) hx hb dX12_blameOf_9 (by decide) ?_
    refine lv_istore_n (lv' := [(3, .int 0), (0, .ref (q 0)), (1, .int a1), (2, .int a2)]) hx hb dX12_blameOf_10 rfl hl (by decide) rfl (fun ls hl => ?_)
    refine lv_iconst (v := 0) hx hb dX12_blameOf_11 (by decide) ?_
    refine lv_istore (lv' := [(4, .int 0), (3, .int 0), (0, .ref (q 0)), (1, .int a1), (2, .int a2)]) hx hb dX12_blameOf_12 hl (by decide) rfl (fun ls hl => ?_)
    exact J_14 fu a1 a2 0 0 _ (lv_sub hl [2, 3, 4, 1, 0] rfl) hf hok
  · have hf := it_eq c1 hf
    refine lv_ldc (v := (-1000000000)) hx hb hown cn71 dX12_blameOf_6 ?_
    exact e_ri C0 (hf.symm.trans hF) dX12_blameOf_8
noncomputable def pX12_blame (m : MS) (a1 : Int32) : Int32 × MS := if (pX12_isMicrophone m a1) = true then (bd (pX12_finds m (-1000000000)) fun (r5 : Int32) (u6 : MS) => bd (pX12_tells u6 (pX12_blameOf u6 a1 r5)) fun (r8 : Int32) (u9 : MS) => (r8, u9)) else (bd (pX12_fails m 1) fun (r2 : Int32) (u3 : MS) => (r2, u3))
def kX12_blame (m : MS) (a1 : Int32) : Prop := if (pX12_isMicrophone m a1) = true then ((kX12_finds m (-1000000000)) ∧ (bd (pX12_finds m (-1000000000)) fun (r5 : Int32) (u6 : MS) => kX12_blameOf u6 a1 r5)) else (True)
abbrev rX12_blame : Room := { frames := 5, cells := 0, slots := 0, locals := 120 }
set_option maxHeartbeats 4000000 in
set_option maxRecDepth 100000 in
theorem mX12_blame (l : Launch) (dC : Nat → ClassId) (dI : Nat → Nat → Nat) (cI cB cO cL : ClassId) (q : Nat → Nat) (m : MS) (a1 : Int32) (hI : gD (fun _ => True) (mAd q)) (hok : kX12_blame m a1) : Met l yX12_blame wsX12_blame rX12_blame (gP (dC, dI) (tYS cI cB cO cL) (mw q cI m) [.ref (q 0), .int a1]) (gQi (dC, dI) (fun m9 => mw q cI m9) (wA (mw q cI m)) (pX12_blame m a1)) 0 0 (wA (mw q cI m)) := by
  refine gMet (cc := cX12_blame) (maxL := 2) (ret := some .int) [(0, .ref (q 0)), (1, .int a1)] (by decide) rfl rfl rfl ?_
  intro p e s mi below meth c C0 hK hP ls hl
  obtain ⟨hx, hb, hr, hml, hown, hts, hlocks⟩ := id C0
  have hown : s.vm.findClass RX12 = some mi.cls := hown
  have hS : va_S (wA (mw q cI m)) s.heap s.heap [] := va_S.rf
  have hD : gD (wA (mw q cI m)) (mAd q) := gD_wA (ws := mw q cI m) hI
  have hP : va_P (dC, dI) vwCl (mw q cI m) s.heap := hP
  obtain ⟨F, hF⟩ : ∃ F, F = pX12_blame m a1 := ⟨_, rfl⟩
  have hf := hF
  have cn71 := hts (.constant RX12 71 (-1000000000)) (by decide +kernel)
  refine lv_aload_n hx hb dX12_blame_0 rfl (lv_at hl 0 rfl) ?_
  refine lv_iload_n hx hb dX12_blame_1 rfl (lv_at hl 1 rfl) ?_
  refine gro_i (va_runV (As := [.int a1]) (rest := []) ⟨hx, hb, hml, hown, hts⟩ (mX12_isMicrophone l dC dI cI cB cO cL q m a1  ) (cwV 1 hts gX12_blame_X12_isMicrophone rfl rfl rfl (by decide +kernel) ⟨Nat.le_of_ble_eq_true rfl, Nat.le_of_ble_eq_true rfl⟩) ⟨gP_blind, va_recv hK hP (ci := 9) (q0 := 0) rfl rfl, gP_ok hP hK⟩ rfl rfl hl.1 rfl (lv_room (Nat.le_of_ble_eq_true rfl)) dX12_blame_2 ⟨Nat.zero_le _, Nat.zero_le _⟩) ?_
  refine lv_if_eq (tgt := 26) hx hb dX12_blame_5 (by decide) (fun c1 => ?_) (fun c1 => ?_)
  · have c1 := bz_f c1
    have hf := ie_eq c1 hf
    refine lv_aload_n hx hb dX12_blame_26 rfl (lv_at hl 0 rfl) ?_
    refine lv_iconst (v := 1) hx hb dX12_blame_27 (by decide) ?_
    refine gms_i (va_runV (As := [.int 1]) (rest := []) ⟨hx, hb, hml, hown, hts⟩ (mX12_fails l dC dI cI cB cO cL q m 1 (gD_any hD) ) (cwV 1 hts gX12_blame_X12_fails rfl rfl rfl (by decide +kernel) ⟨Nat.le_of_ble_eq_true rfl, Nat.le_of_ble_eq_true rfl⟩) ⟨gP_blind, va_recv hK hP (ci := 9) (q0 := 0) rfl rfl, gP_ok hP hK⟩ rfl rfl hl.1 rfl (lv_room (Nat.le_of_ble_eq_true rfl)) dX12_blame_28 ⟨Nat.zero_le _, Nat.zero_le _⟩) hP (gD_va hD rfl) hS (fun r2 u3 H locs hw hP hS => ?_)
    have hP : va_P (dC, dI) vwCl (mw q cI u3) H := hP
    have hf := bd_eq hw hf
    exact e_mi C0 (hf.symm.trans hF) hP hS dX12_blame_31
  · have c1 := bz_t c1
    have hf := it_eq c1 hf
    have hok := it_ok c1 hok
    refine lv_aload_n hx hb dX12_blame_8 rfl (lv_at hl 0 rfl) ?_
    refine lv_aload_n hx hb dX12_blame_9 rfl (lv_at hl 0 rfl) ?_
    refine lv_iload_n hx hb dX12_blame_10 rfl (lv_at hl 1 rfl) ?_
    refine lv_aload_n hx hb dX12_blame_11 rfl (lv_at hl 0 rfl) ?_
    refine lv_ldc (v := (-1000000000)) hx hb hown cn71 dX12_blame_12 ?_
    obtain ⟨h4, hok⟩ := hok
    refine gms_i (va_runV (As := [.int (-1000000000)]) (rest := [.int a1, .ref (q 0), .ref (q 0)]) ⟨hx, hb, hml, hown, hts⟩ (mX12_finds l dC dI cI cB cO cL q m (-1000000000) (gD_any hD) h4) (cwV 1 hts gX12_blame_X12_finds rfl rfl rfl (by decide +kernel) ⟨Nat.le_of_ble_eq_true rfl, Nat.le_of_ble_eq_true rfl⟩) ⟨gP_blind, va_recv hK hP (ci := 9) (q0 := 0) rfl rfl, gP_ok hP hK⟩ rfl rfl hl.1 rfl (lv_room (Nat.le_of_ble_eq_true rfl)) dX12_blame_14 ⟨Nat.zero_le _, Nat.zero_le _⟩) hP (gD_va hD rfl) hS (fun r5 u6 H locs hw hP hS => ?_)
    have hP : va_P (dC, dI) vwCl (mw q cI u6) H := hP
    have hf := bd_eq hw hf
    have hok := bd_ok hw hok
    have h7 : kX12_blameOf u6 a1 r5 := hok
    refine gro_i (va_runV (As := [.int a1, .int r5]) (rest := [.ref (q 0)]) ⟨hx, hb, hml, hown, hts⟩ (mX12_blameOf l dC dI cI cB cO cL q u6 a1 r5  h7) (cwV 2 hts gX12_blame_X12_blameOf rfl rfl rfl (by decide +kernel) ⟨Nat.le_of_ble_eq_true rfl, Nat.le_of_ble_eq_true rfl⟩) ⟨gP_blind, va_recv hK hP (ci := 9) (q0 := 0) rfl rfl, gP_ok hP hK⟩ rfl rfl hl.1 rfl (lv_room (Nat.le_of_ble_eq_true rfl)) dX12_blame_17 ⟨Nat.zero_le _, Nat.zero_le _⟩) ?_
    refine gms_i (va_runV (As := [.int (pX12_blameOf u6 a1 r5)]) (rest := []) ⟨hx, hb, hml, hown, hts⟩ (mX12_tells l dC dI cI cB cO cL q u6 (pX12_blameOf u6 a1 r5) (gD_any hD) ) (cwV 1 hts gX12_blame_X12_tells rfl rfl rfl (by decide +kernel) ⟨Nat.le_of_ble_eq_true rfl, Nat.le_of_ble_eq_true rfl⟩) ⟨gP_blind, va_recv hK hP (ci := 9) (q0 := 0) rfl rfl, gP_ok hP hK⟩ rfl rfl hl.1 rfl (lv_room (Nat.le_of_ble_eq_true rfl)) dX12_blame_20 ⟨Nat.zero_le _, Nat.zero_le _⟩) hP (gD_va hD rfl) hS (fun r8 u9 H locs hw hP hS => ?_)
    have hP : va_P (dC, dI) vwCl (mw q cI u9) H := hP
    have hf := bd_eq hw hf
    refine lv_goto (tgt := 31) hx hb dX12_blame_23 (by decide) ?_
    exact e_mi C0 (hf.symm.trans hF) hP hS dX12_blame_31
noncomputable def pX12_suspectBy_L53 (m : MS) (q_8 : Int32 → Int32 → Int32 → Int32 → Int32) (v1_53 : Int32) (v2_53 : Int32) (v4_53 : Int32) (t0_53 : Int32) : Int32 := lt (v4_53 + 1) fun (x6 : Int32) => q_8 v1_53 v2_53 t0_53 x6
def kX12_suspectBy_L53 (m : MS) (Q_8 : Int32 → Int32 → Int32 → Int32 → Prop) (v1_53 : Int32) (v2_53 : Int32) (v4_53 : Int32) (t0_53 : Int32) : Prop := lt (v4_53 + 1) fun (x6 : Int32) => Q_8 v1_53 v2_53 t0_53 x6
noncomputable def pX12_suspectBy_L40 (m : MS) (q_8 : Int32 → Int32 → Int32 → Int32 → Int32) (v1_40 : Int32) (v3_40 : Int32) (v4_40 : Int32) (v5_40 : Int32) (t0_40 : Int32) : Int32 := if v5_40 ≤ v3_40 then (pX12_suspectBy_L53 m q_8 v1_40 t0_40 v4_40 v3_40) else (pX12_suspectBy_L53 m q_8 v1_40 t0_40 v4_40 v5_40)
def kX12_suspectBy_L40 (m : MS) (Q_8 : Int32 → Int32 → Int32 → Int32 → Prop) (v1_40 : Int32) (v3_40 : Int32) (v4_40 : Int32) (v5_40 : Int32) (t0_40 : Int32) : Prop := if v5_40 ≤ v3_40 then (kX12_suspectBy_L53 m Q_8 v1_40 t0_40 v4_40 v3_40) else (kX12_suspectBy_L53 m Q_8 v1_40 t0_40 v4_40 v5_40)
noncomputable def bX12_suspectBy_L8 (m : MS)  (q_8 : Int32 → Int32 → Int32 → Int32 → Int32) (v1_8 : Int32) (v2_8 : Int32) (v3_8 : Int32) (v4_8 : Int32) : Int32 := if ((m.2.2 0) 2) ≤ v4_8 then (v2_8) else (lt (pX12_blameOf m v4_8 v1_8) fun (x3 : Int32) => if x3 ≤ v3_8 then (pX12_suspectBy_L40 m q_8 v1_8 v3_8 v4_8 x3 v2_8) else (pX12_suspectBy_L40 m q_8 v1_8 v3_8 v4_8 x3 v4_8))
noncomputable def pX12_suspectBy_L8 (m : MS)  : Nat → Int32 → Int32 → Int32 → Int32 → Int32
  | 0 => fun _ _ _ _ => (0)
  | n + 1 => bX12_suspectBy_L8 m  (pX12_suspectBy_L8 m  n)
def kbX12_suspectBy_L8 (m : MS)  (Q_8 : Int32 → Int32 → Int32 → Int32 → Prop) (v1_8 : Int32) (v2_8 : Int32) (v3_8 : Int32) (v4_8 : Int32) : Prop := if ((m.2.2 0) 2) ≤ v4_8 then (True) else ((kX12_blameOf m v4_8 v1_8) ∧ (lt (pX12_blameOf m v4_8 v1_8) fun (x3 : Int32) => if x3 ≤ v3_8 then (kX12_suspectBy_L40 m Q_8 v1_8 v3_8 v4_8 x3 v2_8) else (kX12_suspectBy_L40 m Q_8 v1_8 v3_8 v4_8 x3 v4_8)))
noncomputable def kX12_suspectBy_L8 (m : MS)  : Nat → Int32 → Int32 → Int32 → Int32 → Prop
  | 0 => fun _ _ _ _ => False
  | n + 1 => kbX12_suspectBy_L8 m  (kX12_suspectBy_L8 m  n)
noncomputable def pX12_suspectBy (m : MS) (a1 : Int32) : Int32 := pX12_suspectBy_L8 m fu a1 (-1000000000) 0 0
def kX12_suspectBy (m : MS) (a1 : Int32) : Prop := kX12_suspectBy_L8 m fu a1 (-1000000000) 0 0
abbrev rX12_suspectBy : Room := { frames := 4, cells := 0, slots := 0, locals := 95 }
set_option maxHeartbeats 4000000 in
set_option maxRecDepth 100000 in
theorem mX12_suspectBy (l : Launch) (dC : Nat → ClassId) (dI : Nat → Nat → Nat) (cI cB cO cL : ClassId) (q : Nat → Nat) (m : MS) (a1 : Int32) (hok : kX12_suspectBy m a1) : Met l yX12_suspectBy wsX12_suspectBy rX12_suspectBy (gP (dC, dI) (tYS cI cB cO cL) (mw q cI m) [.ref (q 0), .int a1]) (gRi (pX12_suspectBy m a1)) 0 0 (fun _ => False) := by
  refine gMet (cc := cX12_suspectBy) (maxL := 6) (ret := some .int) [(0, .ref (q 0)), (1, .int a1)] (by decide) rfl rfl rfl ?_
  intro p e s mi below meth c C0 hK hP ls hl
  obtain ⟨hx, hb, hr, hml, hown, hts, hlocks⟩ := id C0
  have hown : s.vm.findClass RX12 = some mi.cls := hown
  obtain ⟨F, hF⟩ : ∃ F, F = pX12_suspectBy m a1 := ⟨_, rfl⟩
  have hf := hF
  have hin12 : ∀ w ∈ u_ws RX12 TX12 23, w ∈ wsX12_suspectBy := by decide +kernel
  have cn71 := hts (.constant RX12 71 (-1000000000)) (by decide +kernel)
  have fl7 := hts (.fieldLink RX12 7 "ClickBenchModel" "s" "[I") (by decide +kernel)
  have J_8 : ∀ (n_8 : Nat) (v1_8 : Int32) (v2_8 : Int32) (v3_8 : Int32) (v4_8 : Int32), ∀ ls : Array Slot, lv_has ls 6 [(0, .ref (q 0)), (1, .int v1_8), (2, .int v2_8), (3, .int v3_8), (4, .int v4_8)] → F = pX12_suspectBy_L8 m n_8 v1_8 v2_8 v3_8 v4_8 → kX12_suspectBy_L8 m n_8 v1_8 v2_8 v3_8 v4_8 → W p l e rX12_suspectBy s mi ([.ref (q 0), .int a1] : List Value).toArray below meth c s.heap [] 0 0 (MQ below (gRi (pX12_suspectBy m a1)) ([.ref (q 0), .int a1] : List Value).toArray s 0 0 (fun _ => False)) (F0 mi 8 ls []) := by
    intro n_8
    induction n_8 with
    | zero =>
      intro v1_8 v2_8 v3_8 v4_8 ls hl hf hok
      exact absurd hok (fun h => h)
    | succ n_8 ih_8 =>
      have J_53 : ∀ (v1_53 : Int32) (v2_53 : Int32) (v4_53 : Int32) (t0_53 : Int32), ∀ ls : Array Slot, lv_has ls 6 [(0, .ref (q 0)), (1, .int v1_53), (2, .int v2_53), (4, .int v4_53)] → F = pX12_suspectBy_L53 m (pX12_suspectBy_L8 m n_8) v1_53 v2_53 v4_53 t0_53 → kX12_suspectBy_L53 m (kX12_suspectBy_L8 m n_8) v1_53 v2_53 v4_53 t0_53 → W p l e rX12_suspectBy s mi ([.ref (q 0), .int a1] : List Value).toArray below meth c s.heap [] 0 0 (MQ below (gRi (pX12_suspectBy m a1)) ([.ref (q 0), .int a1] : List Value).toArray s 0 0 (fun _ => False)) (F0 mi 53 ls [.int t0_53]) := by
        intro v1_53 v2_53 v4_53 t0_53 ls hl hf hok
        refine lv_istore_n (lv' := [(3, .int t0_53), (0, .ref (q 0)), (1, .int v1_53), (2, .int v2_53), (4, .int v4_53)]) hx hb dX12_suspectBy_53 rfl hl (by decide) rfl (fun ls hl => ?_)
        obtain ⟨x6, ex6⟩ : ∃ y : Int32, y = v4_53 + 1 := ⟨_, rfl⟩
        refine lv_iinc (v := x6) (lv' := [(4, .int x6), (3, .int t0_53), (0, .ref (q 0)), (1, .int v1_53), (2, .int v2_53)]) hx hb dX12_suspectBy_54 hl (k := 4) rfl (by rw [ex6]; rfl) (by decide) rfl (fun ls hl => ?_)
        have hf := lt_eq ex6 hf
        have hok := lt_ok ex6 hok
        refine lv_goto (tgt := 8) hx hb dX12_suspectBy_57 (by decide) ?_
        exact ih_8 v1_53 v2_53 t0_53 x6 _ (lv_sub hl [2, 3, 4, 1, 0] rfl) hf hok
      have J_40 : ∀ (v1_40 : Int32) (v3_40 : Int32) (v4_40 : Int32) (v5_40 : Int32) (t0_40 : Int32), ∀ ls : Array Slot, lv_has ls 6 [(0, .ref (q 0)), (1, .int v1_40), (3, .int v3_40), (4, .int v4_40), (5, .int v5_40)] → F = pX12_suspectBy_L40 m (pX12_suspectBy_L8 m n_8) v1_40 v3_40 v4_40 v5_40 t0_40 → kX12_suspectBy_L40 m (kX12_suspectBy_L8 m n_8) v1_40 v3_40 v4_40 v5_40 t0_40 → W p l e rX12_suspectBy s mi ([.ref (q 0), .int a1] : List Value).toArray below meth c s.heap [] 0 0 (MQ below (gRi (pX12_suspectBy m a1)) ([.ref (q 0), .int a1] : List Value).toArray s 0 0 (fun _ => False)) (F0 mi 40 ls [.int t0_40]) := by
        intro v1_40 v3_40 v4_40 v5_40 t0_40 ls hl hf hok
        refine lv_istore_n (lv' := [(2, .int t0_40), (0, .ref (q 0)), (1, .int v1_40), (3, .int v3_40), (4, .int v4_40), (5, .int v5_40)]) hx hb dX12_suspectBy_40 rfl hl (by decide) rfl (fun ls hl => ?_)
        refine lv_iload hx hb dX12_suspectBy_41 (lv_at hl 5 rfl) ?_
        refine lv_iload_n hx hb dX12_suspectBy_43 rfl (lv_at hl 3 rfl) ?_
        refine lv_icmp_le (tgt := 52) hx hb dX12_suspectBy_44 (by decide) (fun c5 => ?_) (fun c5 => ?_)
        · have hf := it_eq c5 hf
          have hok := it_ok c5 hok
          refine lv_iload_n hx hb dX12_suspectBy_52 rfl (lv_at hl 3 rfl) ?_
          exact J_53 v1_40 t0_40 v4_40 v3_40 _ (lv_sub hl [1, 2, 0, 4] rfl) hf hok
        · have hf := ie_eq c5 hf
          have hok := ie_ok c5 hok
          refine lv_iload hx hb dX12_suspectBy_47 (lv_at hl 5 rfl) ?_
          refine lv_goto (tgt := 53) hx hb dX12_suspectBy_49 (by decide) ?_
          exact J_53 v1_40 t0_40 v4_40 v5_40 _ (lv_sub hl [1, 2, 0, 4] rfl) hf hok
      intro v1_8 v2_8 v3_8 v4_8 ls hl hf hok
      have hf : F = bX12_suspectBy_L8 m (pX12_suspectBy_L8 m n_8) v1_8 v2_8 v3_8 v4_8 := hf
      have hok : kbX12_suspectBy_L8 m (kX12_suspectBy_L8 m n_8) v1_8 v2_8 v3_8 v4_8 := hok
      refine lv_iload hx hb dX12_suspectBy_8 (lv_at hl 4 rfl) ?_
      refine lv_aload_n hx hb dX12_suspectBy_10 rfl (lv_at hl 0 rfl) ?_
      refine va_get (D := (dC, dI)) (ci := 9) (v := .ref (q 1)) (C := RX12) (T := TX12) (N := 23) hx hb hts hin12 hown hK hP 0 rfl rfl 0 (by decide) fl7 (fun _ h9 => h9) rfl dX12_suspectBy_11 ?_
      refine lv_iconst (v := 2) hx hb dX12_suspectBy_14 (by decide) ?_
      refine g_ialdK (D := (dC, dI)) (tys := (tYS cI cB cO cL)) (k := 2) hx hb hK hP 1 0 rfl rfl (by decide) (by decide) (by decide) dX12_suspectBy_15 ?_
      refine lv_icmp_ge (tgt := 60) hx hb dX12_suspectBy_16 (by decide) (fun c1 => ?_) (fun c1 => ?_)
      · have hf := it_eq c1 hf
        refine lv_iload_n hx hb dX12_suspectBy_60 rfl (lv_at hl 2 rfl) ?_
        exact e_ri C0 (hf.symm.trans hF) dX12_suspectBy_61
      · have hf := ie_eq c1 hf
        have hok := ie_ok c1 hok
        refine lv_aload_n hx hb dX12_suspectBy_19 rfl (lv_at hl 0 rfl) ?_
        refine lv_iload hx hb dX12_suspectBy_20 (lv_at hl 4 rfl) ?_
        refine lv_iload_n hx hb dX12_suspectBy_22 rfl (lv_at hl 1 rfl) ?_
        obtain ⟨h2, hok⟩ := hok
        refine gro_i (va_runV (As := [.int v4_8, .int v1_8]) (rest := []) ⟨hx, hb, hml, hown, hts⟩ (mX12_blameOf l dC dI cI cB cO cL q m v4_8 v1_8  h2) (cwV 2 hts gX12_suspectBy_X12_blameOf rfl rfl rfl (by decide +kernel) ⟨Nat.le_of_ble_eq_true rfl, Nat.le_of_ble_eq_true rfl⟩) ⟨gP_blind, va_recv hK hP (ci := 9) (q0 := 0) rfl rfl, gP_ok hP hK⟩ rfl rfl hl.1 rfl (lv_room (Nat.le_of_ble_eq_true rfl)) dX12_suspectBy_23 ⟨Nat.zero_le _, Nat.zero_le _⟩) ?_
        refine lv_topi (fun x3 ex3 => ?_)
        have hf := lt_eq ex3 hf
        have hok := lt_ok ex3 hok
        refine lv_istore (lv' := [(5, .int x3), (0, .ref (q 0)), (1, .int v1_8), (2, .int v2_8), (3, .int v3_8), (4, .int v4_8)]) hx hb dX12_suspectBy_26 hl (by decide) rfl (fun ls hl => ?_)
        refine lv_iload hx hb dX12_suspectBy_28 (lv_at hl 0 rfl) ?_
        refine lv_iload_n hx hb dX12_suspectBy_30 rfl (lv_at hl 4 rfl) ?_
        refine lv_icmp_le (tgt := 39) hx hb dX12_suspectBy_31 (by decide) (fun c4 => ?_) (fun c4 => ?_)
        · have hf := it_eq c4 hf
          have hok := it_ok c4 hok
          refine lv_iload_n hx hb dX12_suspectBy_39 rfl (lv_at hl 3 rfl) ?_
          exact J_40 v1_8 v3_8 v4_8 x3 v2_8 _ (lv_sub hl [1, 2, 4, 5, 0] rfl) hf hok
        · have hf := ie_eq c4 hf
          have hok := ie_ok c4 hok
          refine lv_iload hx hb dX12_suspectBy_34 (lv_at hl 5 rfl) ?_
          refine lv_goto (tgt := 40) hx hb dX12_suspectBy_36 (by decide) ?_
          exact J_40 v1_8 v3_8 v4_8 x3 v4_8 _ (lv_sub hl [1, 2, 4, 5, 0] rfl) hf hok
  refine lv_ldc (v := (-1000000000)) hx hb hown cn71 dX12_suspectBy_0 ?_
  refine lv_istore_n (lv' := [(2, .int (-1000000000)), (0, .ref (q 0)), (1, .int a1)]) hx hb dX12_suspectBy_2 rfl hl (by decide) rfl (fun ls hl => ?_)
  refine lv_iconst (v := 0) hx hb dX12_suspectBy_3 (by decide) ?_
  refine lv_istore_n (lv' := [(3, .int 0), (2, .int (-1000000000)), (0, .ref (q 0)), (1, .int a1)]) hx hb dX12_suspectBy_4 rfl hl (by decide) rfl (fun ls hl => ?_)
  refine lv_iconst (v := 0) hx hb dX12_suspectBy_5 (by decide) ?_
  refine lv_istore (lv' := [(4, .int 0), (3, .int 0), (2, .int (-1000000000)), (0, .ref (q 0)), (1, .int a1)]) hx hb dX12_suspectBy_6 hl (by decide) rfl (fun ls hl => ?_)
  exact J_8 fu a1 (-1000000000) 0 0 _ (lv_sub hl [3, 4, 2, 1, 0] rfl) hf hok
noncomputable def pX12_suspect (m : MS) : Int32 × MS := bd (pX12_finds m (-1000000000)) fun (r2 : Int32) (u3 : MS) => bd (pX12_tells u3 (pX12_suspectBy u3 r2)) fun (r5 : Int32) (u6 : MS) => (r5, u6)
def kX12_suspect (m : MS) : Prop := (kX12_finds m (-1000000000)) ∧ (bd (pX12_finds m (-1000000000)) fun (r2 : Int32) (u3 : MS) => kX12_suspectBy u3 r2)
abbrev rX12_suspect : Room := { frames := 5, cells := 0, slots := 0, locals := 120 }
set_option maxHeartbeats 4000000 in
set_option maxRecDepth 100000 in
theorem mX12_suspect (l : Launch) (dC : Nat → ClassId) (dI : Nat → Nat → Nat) (cI cB cO cL : ClassId) (q : Nat → Nat) (m : MS) (hI : gD (fun _ => True) (mAd q)) (hok : kX12_suspect m) : Met l yX12_suspect wsX12_suspect rX12_suspect (gP (dC, dI) (tYS cI cB cO cL) (mw q cI m) [.ref (q 0)]) (gQi (dC, dI) (fun m9 => mw q cI m9) (wA (mw q cI m)) (pX12_suspect m)) 0 0 (wA (mw q cI m)) := by
  refine gMet (cc := cX12_suspect) (maxL := 1) (ret := some .int) [(0, .ref (q 0))] (by decide) rfl rfl rfl ?_
  intro p e s mi below meth c C0 hK hP ls hl
  obtain ⟨hx, hb, hr, hml, hown, hts, hlocks⟩ := id C0
  have hown : s.vm.findClass RX12 = some mi.cls := hown
  have hS : va_S (wA (mw q cI m)) s.heap s.heap [] := va_S.rf
  have hD : gD (wA (mw q cI m)) (mAd q) := gD_wA (ws := mw q cI m) hI
  have hP : va_P (dC, dI) vwCl (mw q cI m) s.heap := hP
  obtain ⟨F, hF⟩ : ∃ F, F = pX12_suspect m := ⟨_, rfl⟩
  have hf := hF
  have cn71 := hts (.constant RX12 71 (-1000000000)) (by decide +kernel)
  refine lv_aload_n hx hb dX12_suspect_0 rfl (lv_at hl 0 rfl) ?_
  refine lv_aload_n hx hb dX12_suspect_1 rfl (lv_at hl 0 rfl) ?_
  refine lv_aload_n hx hb dX12_suspect_2 rfl (lv_at hl 0 rfl) ?_
  refine lv_ldc (v := (-1000000000)) hx hb hown cn71 dX12_suspect_3 ?_
  obtain ⟨h1, hok⟩ := hok
  refine gms_i (va_runV (As := [.int (-1000000000)]) (rest := [.ref (q 0), .ref (q 0)]) ⟨hx, hb, hml, hown, hts⟩ (mX12_finds l dC dI cI cB cO cL q m (-1000000000) (gD_any hD) h1) (cwV 1 hts gX12_suspect_X12_finds rfl rfl rfl (by decide +kernel) ⟨Nat.le_of_ble_eq_true rfl, Nat.le_of_ble_eq_true rfl⟩) ⟨gP_blind, va_recv hK hP (ci := 9) (q0 := 0) rfl rfl, gP_ok hP hK⟩ rfl rfl hl.1 rfl (lv_room (Nat.le_of_ble_eq_true rfl)) dX12_suspect_5 ⟨Nat.zero_le _, Nat.zero_le _⟩) hP (gD_va hD rfl) hS (fun r2 u3 H locs hw hP hS => ?_)
  have hP : va_P (dC, dI) vwCl (mw q cI u3) H := hP
  have hf := bd_eq hw hf
  have hok := bd_ok hw hok
  have h4 : kX12_suspectBy u3 r2 := hok
  refine gro_i (va_runV (As := [.int r2]) (rest := [.ref (q 0)]) ⟨hx, hb, hml, hown, hts⟩ (mX12_suspectBy l dC dI cI cB cO cL q u3 r2  h4) (cwV 1 hts gX12_suspect_X12_suspectBy rfl rfl rfl (by decide +kernel) ⟨Nat.le_of_ble_eq_true rfl, Nat.le_of_ble_eq_true rfl⟩) ⟨gP_blind, va_recv hK hP (ci := 9) (q0 := 0) rfl rfl, gP_ok hP hK⟩ rfl rfl hl.1 rfl (lv_room (Nat.le_of_ble_eq_true rfl)) dX12_suspect_8 ⟨Nat.zero_le _, Nat.zero_le _⟩) ?_
  refine gms_i (va_runV (As := [.int (pX12_suspectBy u3 r2)]) (rest := []) ⟨hx, hb, hml, hown, hts⟩ (mX12_tells l dC dI cI cB cO cL q u3 (pX12_suspectBy u3 r2) (gD_any hD) ) (cwV 1 hts gX12_suspect_X12_tells rfl rfl rfl (by decide +kernel) ⟨Nat.le_of_ble_eq_true rfl, Nat.le_of_ble_eq_true rfl⟩) ⟨gP_blind, va_recv hK hP (ci := 9) (q0 := 0) rfl rfl, gP_ok hP hK⟩ rfl rfl hl.1 rfl (lv_room (Nat.le_of_ble_eq_true rfl)) dX12_suspect_11 ⟨Nat.zero_le _, Nat.zero_le _⟩) hP (gD_va hD rfl) hS (fun r5 u6 H locs hw hP hS => ?_)
  have hP : va_P (dC, dI) vwCl (mw q cI u6) H := hP
  have hf := bd_eq hw hf
  exact e_mi C0 (hf.symm.trans hF) hP hS dX12_suspect_14
noncomputable def pX12_foundWithout (m : MS) (a1 : Int32) : Int32 × MS := if (pX12_isMicrophone m a1) = true then (bd (pX12_finds m a1) fun (r5 : Int32) (u6 : MS) => bd (pX12_tells u6 r5) fun (r7 : Int32) (u8 : MS) => (r7, u8)) else (bd (pX12_fails m 1) fun (r2 : Int32) (u3 : MS) => (r2, u3))
def kX12_foundWithout (m : MS) (a1 : Int32) : Prop := if (pX12_isMicrophone m a1) = true then (kX12_finds m a1) else (True)
abbrev rX12_foundWithout : Room := { frames := 5, cells := 0, slots := 0, locals := 120 }
set_option maxHeartbeats 4000000 in
set_option maxRecDepth 100000 in
theorem mX12_foundWithout (l : Launch) (dC : Nat → ClassId) (dI : Nat → Nat → Nat) (cI cB cO cL : ClassId) (q : Nat → Nat) (m : MS) (a1 : Int32) (hI : gD (fun _ => True) (mAd q)) (hok : kX12_foundWithout m a1) : Met l yX12_foundWithout wsX12_foundWithout rX12_foundWithout (gP (dC, dI) (tYS cI cB cO cL) (mw q cI m) [.ref (q 0), .int a1]) (gQi (dC, dI) (fun m9 => mw q cI m9) (wA (mw q cI m)) (pX12_foundWithout m a1)) 0 0 (wA (mw q cI m)) := by
  refine gMet (cc := cX12_foundWithout) (maxL := 2) (ret := some .int) [(0, .ref (q 0)), (1, .int a1)] (by decide) rfl rfl rfl ?_
  intro p e s mi below meth c C0 hK hP ls hl
  obtain ⟨hx, hb, hr, hml, hown, hts, hlocks⟩ := id C0
  have hown : s.vm.findClass RX12 = some mi.cls := hown
  have hS : va_S (wA (mw q cI m)) s.heap s.heap [] := va_S.rf
  have hD : gD (wA (mw q cI m)) (mAd q) := gD_wA (ws := mw q cI m) hI
  have hP : va_P (dC, dI) vwCl (mw q cI m) s.heap := hP
  obtain ⟨F, hF⟩ : ∃ F, F = pX12_foundWithout m a1 := ⟨_, rfl⟩
  have hf := hF
  refine lv_aload_n hx hb dX12_foundWithout_0 rfl (lv_at hl 0 rfl) ?_
  refine lv_iload_n hx hb dX12_foundWithout_1 rfl (lv_at hl 1 rfl) ?_
  refine gro_i (va_runV (As := [.int a1]) (rest := []) ⟨hx, hb, hml, hown, hts⟩ (mX12_isMicrophone l dC dI cI cB cO cL q m a1  ) (cwV 1 hts gX12_foundWithout_X12_isMicrophone rfl rfl rfl (by decide +kernel) ⟨Nat.le_of_ble_eq_true rfl, Nat.le_of_ble_eq_true rfl⟩) ⟨gP_blind, va_recv hK hP (ci := 9) (q0 := 0) rfl rfl, gP_ok hP hK⟩ rfl rfl hl.1 rfl (lv_room (Nat.le_of_ble_eq_true rfl)) dX12_foundWithout_2 ⟨Nat.zero_le _, Nat.zero_le _⟩) ?_
  refine lv_if_eq (tgt := 20) hx hb dX12_foundWithout_5 (by decide) (fun c1 => ?_) (fun c1 => ?_)
  · have c1 := bz_f c1
    have hf := ie_eq c1 hf
    refine lv_aload_n hx hb dX12_foundWithout_20 rfl (lv_at hl 0 rfl) ?_
    refine lv_iconst (v := 1) hx hb dX12_foundWithout_21 (by decide) ?_
    refine gms_i (va_runV (As := [.int 1]) (rest := []) ⟨hx, hb, hml, hown, hts⟩ (mX12_fails l dC dI cI cB cO cL q m 1 (gD_any hD) ) (cwV 1 hts gX12_foundWithout_X12_fails rfl rfl rfl (by decide +kernel) ⟨Nat.le_of_ble_eq_true rfl, Nat.le_of_ble_eq_true rfl⟩) ⟨gP_blind, va_recv hK hP (ci := 9) (q0 := 0) rfl rfl, gP_ok hP hK⟩ rfl rfl hl.1 rfl (lv_room (Nat.le_of_ble_eq_true rfl)) dX12_foundWithout_22 ⟨Nat.zero_le _, Nat.zero_le _⟩) hP (gD_va hD rfl) hS (fun r2 u3 H locs hw hP hS => ?_)
    have hP : va_P (dC, dI) vwCl (mw q cI u3) H := hP
    have hf := bd_eq hw hf
    exact e_mi C0 (hf.symm.trans hF) hP hS dX12_foundWithout_25
  · have c1 := bz_t c1
    have hf := it_eq c1 hf
    have hok := it_ok c1 hok
    refine lv_aload_n hx hb dX12_foundWithout_8 rfl (lv_at hl 0 rfl) ?_
    refine lv_aload_n hx hb dX12_foundWithout_9 rfl (lv_at hl 0 rfl) ?_
    refine lv_iload_n hx hb dX12_foundWithout_10 rfl (lv_at hl 1 rfl) ?_
    have h4 : kX12_finds m a1 := hok
    refine gms_i (va_runV (As := [.int a1]) (rest := [.ref (q 0)]) ⟨hx, hb, hml, hown, hts⟩ (mX12_finds l dC dI cI cB cO cL q m a1 (gD_any hD) h4) (cwV 1 hts gX12_foundWithout_X12_finds rfl rfl rfl (by decide +kernel) ⟨Nat.le_of_ble_eq_true rfl, Nat.le_of_ble_eq_true rfl⟩) ⟨gP_blind, va_recv hK hP (ci := 9) (q0 := 0) rfl rfl, gP_ok hP hK⟩ rfl rfl hl.1 rfl (lv_room (Nat.le_of_ble_eq_true rfl)) dX12_foundWithout_11 ⟨Nat.zero_le _, Nat.zero_le _⟩) hP (gD_va hD rfl) hS (fun r5 u6 H locs hw hP hS => ?_)
    have hP : va_P (dC, dI) vwCl (mw q cI u6) H := hP
    have hf := bd_eq hw hf
    refine gms_i (va_runV (As := [.int r5]) (rest := []) ⟨hx, hb, hml, hown, hts⟩ (mX12_tells l dC dI cI cB cO cL q u6 r5 (gD_any hD) ) (cwV 1 hts gX12_foundWithout_X12_tells rfl rfl rfl (by decide +kernel) ⟨Nat.le_of_ble_eq_true rfl, Nat.le_of_ble_eq_true rfl⟩) ⟨gP_blind, va_recv hK hP (ci := 9) (q0 := 0) rfl rfl, gP_ok hP hK⟩ rfl rfl hl.1 rfl (lv_room (Nat.le_of_ble_eq_true rfl)) dX12_foundWithout_14 ⟨Nat.zero_le _, Nat.zero_le _⟩) hP (gD_va hD rfl) hS (fun r7 u8 H locs hw hP hS => ?_)
    have hP : va_P (dC, dI) vwCl (mw q cI u8) H := hP
    have hf := bd_eq hw hf
    refine lv_goto (tgt := 25) hx hb dX12_foundWithout_17 (by decide) ?_
    exact e_mi C0 (hf.symm.trans hF) hP hS dX12_foundWithout_25
noncomputable def pX12_wholeOf (m : MS) (a1 : Int32) (a2 : Int32) : Int32 := if a1 = 6 then (pX12_noted m) else (if a1 = 7 then (m.1 6) else (if a1 = 8 then (if a2 = (-1000000000) then (0) else ((m.2.2 9) a2.toNatClampNeg)) else (if a1 = 9 then (pX12_likes m a2) else (if a1 = 10 then ((m.2.2 0) 6) else ((m.2.2 0) a1.toNatClampNeg)))))
def kX12_wholeOf (m : MS) (a1 : Int32) (a2 : Int32) : Prop := if a1 = 6 then (kX12_noted m) else (if a1 = 7 then (True) else (if a1 = 8 then (if a2 = (-1000000000) then (True) else (vp_in a2 400)) else (if a1 = 9 then (kX12_likes m a2) else (if a1 = 10 then (True) else (vp_in a1 122)))))
abbrev rX12_wholeOf : Room := { frames := 2, cells := 0, slots := 0, locals := 44 }
set_option maxHeartbeats 4000000 in
set_option maxRecDepth 100000 in
theorem mX12_wholeOf (l : Launch) (dC : Nat → ClassId) (dI : Nat → Nat → Nat) (cI cB cO cL : ClassId) (q : Nat → Nat) (m : MS) (a1 : Int32) (a2 : Int32) (hok : kX12_wholeOf m a1 a2) : Met l yX12_wholeOf wsX12_wholeOf rX12_wholeOf (gP (dC, dI) (tYS cI cB cO cL) (mw q cI m) [.ref (q 0), .int a1, .int a2]) (gRi (pX12_wholeOf m a1 a2)) 0 0 (fun _ => False) := by
  refine gMet (cc := cX12_wholeOf) (maxL := 3) (ret := some .int) [(0, .ref (q 0)), (1, .int a1), (2, .int a2)] (by decide) rfl rfl rfl ?_
  intro p e s mi below meth c C0 hK hP ls hl
  obtain ⟨hx, hb, hr, hml, hown, hts, hlocks⟩ := id C0
  have hown : s.vm.findClass RX12 = some mi.cls := hown
  obtain ⟨F, hF⟩ : ∃ F, F = pX12_wholeOf m a1 a2 := ⟨_, rfl⟩
  have hf := hF
  have hin12 : ∀ w ∈ u_ws RX12 TX12 23, w ∈ wsX12_wholeOf := by decide +kernel
  have fl196 := hts (.fieldLink RX12 196 "ClickBenchModel" "pairMany" "I") (by decide +kernel)
  have cn71 := hts (.constant RX12 71 (-1000000000)) (by decide +kernel)
  have fl37 := hts (.fieldLink RX12 37 "ClickBenchModel" "voteMany" "[I") (by decide +kernel)
  have fl7 := hts (.fieldLink RX12 7 "ClickBenchModel" "s" "[I") (by decide +kernel)
  refine lv_iload_n hx hb dX12_wholeOf_0 rfl (lv_at hl 1 rfl) ?_
  by_cases c1 : a1 = 6
  · have hf := it_eq c1 hf
    have hok := it_ok c1 hok
    refine lv_tableIn (tgt := 36) (off := 35) hx hb dX12_wholeOf_1 (by rw [c1]; decide) (by rw [c1]; decide) (by rw [c1]; rfl) (by decide) ?_
    refine lv_aload_n hx hb dX12_wholeOf_36 rfl (lv_at hl 0 rfl) ?_
    have h2 : kX12_noted m := hok
    refine gro_i (va_runV (As := []) (rest := []) ⟨hx, hb, hml, hown, hts⟩ (mX12_noted l dC dI cI cB cO cL q m  h2) (cwV 0 hts gX12_wholeOf_X12_noted rfl rfl rfl (by decide +kernel) ⟨Nat.le_of_ble_eq_true rfl, Nat.le_of_ble_eq_true rfl⟩) ⟨gP_blind, va_recv hK hP (ci := 9) (q0 := 0) rfl rfl, gP_ok hP hK⟩ rfl rfl hl.1 rfl (lv_room (Nat.le_of_ble_eq_true rfl)) dX12_wholeOf_37 ⟨Nat.zero_le _, Nat.zero_le _⟩) ?_
    exact e_ri C0 (hf.symm.trans hF) dX12_wholeOf_40
  · have hf := ie_eq c1 hf
    have hok := ie_ok c1 hok
    by_cases c3 : a1 = 7
    · have hf := it_eq c3 hf
      refine lv_tableIn (tgt := 41) (off := 40) hx hb dX12_wholeOf_1 (by rw [c3]; decide) (by rw [c3]; decide) (by rw [c3]; rfl) (by decide) ?_
      refine lv_aload_n hx hb dX12_wholeOf_41 rfl (lv_at hl 0 rfl) ?_
      refine va_get (D := (dC, dI)) (ci := 9) (v := .int (m.1 6)) (C := RX12) (T := TX12) (N := 23) hx hb hts hin12 hown hK hP 0 rfl rfl 18 (by decide) fl196 (fun _ h9 => h9) rfl dX12_wholeOf_42 ?_
      exact e_ri C0 (hf.symm.trans hF) dX12_wholeOf_45
    · have hf := ie_eq c3 hf
      have hok := ie_ok c3 hok
      by_cases c4 : a1 = 8
      · have hf := it_eq c4 hf
        have hok := it_ok c4 hok
        refine lv_tableIn (tgt := 46) (off := 45) hx hb dX12_wholeOf_1 (by rw [c4]; decide) (by rw [c4]; decide) (by rw [c4]; rfl) (by decide) ?_
        refine lv_iload_n hx hb dX12_wholeOf_46 rfl (lv_at hl 2 rfl) ?_
        refine lv_ldc (v := (-1000000000)) hx hb hown cn71 dX12_wholeOf_47 ?_
        refine lv_icmp_ne (tgt := 56) hx hb dX12_wholeOf_49 (by decide) (fun c5 => ?_) (fun c5 => ?_)
        · have hf := ie_eq c5 hf
          have hok := ie_ok c5 hok
          refine lv_aload_n hx hb dX12_wholeOf_56 rfl (lv_at hl 0 rfl) ?_
          refine va_get (D := (dC, dI)) (ci := 9) (v := .ref (q 10)) (C := RX12) (T := TX12) (N := 23) hx hb hts hin12 hown hK hP 0 rfl rfl 15 (by decide) fl37 (fun _ h9 => h9) rfl dX12_wholeOf_57 ?_
          refine lv_iload_n hx hb dX12_wholeOf_60 rfl (lv_at hl 2 rfl) ?_
          have h6 : vp_in a2 400 := hok
          refine va_iald (D := (dC, dI)) (tys := (tYS cI cB cO cL)) hx hb hK hP 10 0 rfl rfl h6 dX12_wholeOf_61 ?_
          exact e_ri C0 (hf.symm.trans hF) dX12_wholeOf_62
        · have hf := it_eq c5 hf
          refine lv_iconst (v := 0) hx hb dX12_wholeOf_52 (by decide) ?_
          refine lv_goto (tgt := 62) hx hb dX12_wholeOf_53 (by decide) ?_
          exact e_ri C0 (hf.symm.trans hF) dX12_wholeOf_62
      · have hf := ie_eq c4 hf
        have hok := ie_ok c4 hok
        by_cases c7 : a1 = 9
        · have hf := it_eq c7 hf
          have hok := it_ok c7 hok
          refine lv_tableIn (tgt := 63) (off := 62) hx hb dX12_wholeOf_1 (by rw [c7]; decide) (by rw [c7]; decide) (by rw [c7]; rfl) (by decide) ?_
          refine lv_aload_n hx hb dX12_wholeOf_63 rfl (lv_at hl 0 rfl) ?_
          refine lv_iload_n hx hb dX12_wholeOf_64 rfl (lv_at hl 2 rfl) ?_
          have h8 : kX12_likes m a2 := hok
          refine gro_i (va_runV (As := [.int a2]) (rest := []) ⟨hx, hb, hml, hown, hts⟩ (mX12_likes l dC dI cI cB cO cL q m a2  h8) (cwV 1 hts gX12_wholeOf_X12_likes rfl rfl rfl (by decide +kernel) ⟨Nat.le_of_ble_eq_true rfl, Nat.le_of_ble_eq_true rfl⟩) ⟨gP_blind, va_recv hK hP (ci := 9) (q0 := 0) rfl rfl, gP_ok hP hK⟩ rfl rfl hl.1 rfl (lv_room (Nat.le_of_ble_eq_true rfl)) dX12_wholeOf_65 ⟨Nat.zero_le _, Nat.zero_le _⟩) ?_
          exact e_ri C0 (hf.symm.trans hF) dX12_wholeOf_68
        · have hf := ie_eq c7 hf
          have hok := ie_ok c7 hok
          by_cases c9 : a1 = 10
          · have hf := it_eq c9 hf
            refine lv_tableIn (tgt := 69) (off := 68) hx hb dX12_wholeOf_1 (by rw [c9]; decide) (by rw [c9]; decide) (by rw [c9]; rfl) (by decide) ?_
            refine lv_aload_n hx hb dX12_wholeOf_69 rfl (lv_at hl 0 rfl) ?_
            refine va_get (D := (dC, dI)) (ci := 9) (v := .ref (q 1)) (C := RX12) (T := TX12) (N := 23) hx hb hts hin12 hown hK hP 0 rfl rfl 0 (by decide) fl7 (fun _ h9 => h9) rfl dX12_wholeOf_70 ?_
            refine lv_bipush (v := 6) hx hb dX12_wholeOf_73 (by decide) ?_
            refine g_ialdK (D := (dC, dI)) (tys := (tYS cI cB cO cL)) (k := 6) hx hb hK hP 1 0 rfl rfl (by decide) (by decide) (by decide) dX12_wholeOf_75 ?_
            exact e_ri C0 (hf.symm.trans hF) dX12_wholeOf_76
          · have hf := ie_eq c9 hf
            have hok := ie_ok c9 hok
            refine lv_tableOut (tgt := 77) hx hb dX12_wholeOf_1 (by have h0_ := i32_ne (n := 6) rfl c1; have h1_ := i32_ne (n := 7) rfl c3; have h2_ := i32_ne (n := 8) rfl c4; have h3_ := i32_ne (n := 9) rfl c7; have h4_ := i32_ne (n := 10) rfl c9; omega) (by decide) ?_
            refine lv_aload_n hx hb dX12_wholeOf_77 rfl (lv_at hl 0 rfl) ?_
            refine va_get (D := (dC, dI)) (ci := 9) (v := .ref (q 1)) (C := RX12) (T := TX12) (N := 23) hx hb hts hin12 hown hK hP 0 rfl rfl 0 (by decide) fl7 (fun _ h9 => h9) rfl dX12_wholeOf_78 ?_
            refine lv_iload_n hx hb dX12_wholeOf_81 rfl (lv_at hl 1 rfl) ?_
            have h10 : vp_in a1 122 := hok
            refine va_iald (D := (dC, dI)) (tys := (tYS cI cB cO cL)) hx hb hK hP 1 0 rfl rfl h10 dX12_wholeOf_82 ?_
            exact e_ri C0 (hf.symm.trans hF) dX12_wholeOf_83
noncomputable def pX12_whole (m : MS) (a1 : Int32) : Int32 × MS := if (pX12_in a1 0 10) = true then (bd (pX12_finds m (-1000000000)) fun (r5 : Int32) (u6 : MS) => bd (pX12_tells u6 (pX12_wholeOf u6 a1 r5)) fun (r8 : Int32) (u9 : MS) => (r8, u9)) else (bd (pX12_fails m 1) fun (r2 : Int32) (u3 : MS) => (r2, u3))
def kX12_whole (m : MS) (a1 : Int32) : Prop := if (pX12_in a1 0 10) = true then ((kX12_finds m (-1000000000)) ∧ (bd (pX12_finds m (-1000000000)) fun (r5 : Int32) (u6 : MS) => kX12_wholeOf u6 a1 r5)) else (True)
abbrev rX12_whole : Room := { frames := 5, cells := 0, slots := 0, locals := 120 }
set_option maxHeartbeats 4000000 in
set_option maxRecDepth 100000 in
theorem mX12_whole (l : Launch) (dC : Nat → ClassId) (dI : Nat → Nat → Nat) (cI cB cO cL : ClassId) (q : Nat → Nat) (m : MS) (a1 : Int32) (hI : gD (fun _ => True) (mAd q)) (hok : kX12_whole m a1) : Met l yX12_whole wsX12_whole rX12_whole (gP (dC, dI) (tYS cI cB cO cL) (mw q cI m) [.ref (q 0), .int a1]) (gQi (dC, dI) (fun m9 => mw q cI m9) (wA (mw q cI m)) (pX12_whole m a1)) 0 0 (wA (mw q cI m)) := by
  refine gMet (cc := cX12_whole) (maxL := 2) (ret := some .int) [(0, .ref (q 0)), (1, .int a1)] (by decide) rfl rfl rfl ?_
  intro p e s mi below meth c C0 hK hP ls hl
  obtain ⟨hx, hb, hr, hml, hown, hts, hlocks⟩ := id C0
  have hown : s.vm.findClass RX12 = some mi.cls := hown
  have hS : va_S (wA (mw q cI m)) s.heap s.heap [] := va_S.rf
  have hD : gD (wA (mw q cI m)) (mAd q) := gD_wA (ws := mw q cI m) hI
  have hP : va_P (dC, dI) vwCl (mw q cI m) s.heap := hP
  obtain ⟨F, hF⟩ : ∃ F, F = pX12_whole m a1 := ⟨_, rfl⟩
  have hf := hF
  have cn71 := hts (.constant RX12 71 (-1000000000)) (by decide +kernel)
  refine lv_iload_n hx hb dX12_whole_0 rfl (lv_at hl 1 rfl) ?_
  refine lv_iconst (v := 0) hx hb dX12_whole_1 (by decide) ?_
  refine lv_bipush (v := 10) hx hb dX12_whole_2 (by decide) ?_
  refine gro_i (va_runS (As := [.int a1, .int 0, .int 10]) (rest := []) ⟨hx, hb, hml, hown, hts⟩ (mX12_in l dC dI cI cB cO cL  a1 0 10  ) (va_cwS 3 hts gX12_whole_X12_in rfl rfl rfl (by decide +kernel) ⟨Nat.le_of_ble_eq_true rfl, Nat.le_of_ble_eq_true rfl⟩) ⟨gP_blind, gP_ok va_P_nil hK⟩ rfl rfl hl.1 rfl (lv_room (Nat.le_of_ble_eq_true rfl)) dX12_whole_4 ⟨Nat.zero_le _, Nat.zero_le _⟩) ?_
  refine lv_if_eq (tgt := 28) hx hb dX12_whole_7 (by decide) (fun c1 => ?_) (fun c1 => ?_)
  · have c1 := bz_f c1
    have hf := ie_eq c1 hf
    refine lv_aload_n hx hb dX12_whole_28 rfl (lv_at hl 0 rfl) ?_
    refine lv_iconst (v := 1) hx hb dX12_whole_29 (by decide) ?_
    refine gms_i (va_runV (As := [.int 1]) (rest := []) ⟨hx, hb, hml, hown, hts⟩ (mX12_fails l dC dI cI cB cO cL q m 1 (gD_any hD) ) (cwV 1 hts gX12_whole_X12_fails rfl rfl rfl (by decide +kernel) ⟨Nat.le_of_ble_eq_true rfl, Nat.le_of_ble_eq_true rfl⟩) ⟨gP_blind, va_recv hK hP (ci := 9) (q0 := 0) rfl rfl, gP_ok hP hK⟩ rfl rfl hl.1 rfl (lv_room (Nat.le_of_ble_eq_true rfl)) dX12_whole_30 ⟨Nat.zero_le _, Nat.zero_le _⟩) hP (gD_va hD rfl) hS (fun r2 u3 H locs hw hP hS => ?_)
    have hP : va_P (dC, dI) vwCl (mw q cI u3) H := hP
    have hf := bd_eq hw hf
    exact e_mi C0 (hf.symm.trans hF) hP hS dX12_whole_33
  · have c1 := bz_t c1
    have hf := it_eq c1 hf
    have hok := it_ok c1 hok
    refine lv_aload_n hx hb dX12_whole_10 rfl (lv_at hl 0 rfl) ?_
    refine lv_aload_n hx hb dX12_whole_11 rfl (lv_at hl 0 rfl) ?_
    refine lv_iload_n hx hb dX12_whole_12 rfl (lv_at hl 1 rfl) ?_
    refine lv_aload_n hx hb dX12_whole_13 rfl (lv_at hl 0 rfl) ?_
    refine lv_ldc (v := (-1000000000)) hx hb hown cn71 dX12_whole_14 ?_
    obtain ⟨h4, hok⟩ := hok
    refine gms_i (va_runV (As := [.int (-1000000000)]) (rest := [.int a1, .ref (q 0), .ref (q 0)]) ⟨hx, hb, hml, hown, hts⟩ (mX12_finds l dC dI cI cB cO cL q m (-1000000000) (gD_any hD) h4) (cwV 1 hts gX12_whole_X12_finds rfl rfl rfl (by decide +kernel) ⟨Nat.le_of_ble_eq_true rfl, Nat.le_of_ble_eq_true rfl⟩) ⟨gP_blind, va_recv hK hP (ci := 9) (q0 := 0) rfl rfl, gP_ok hP hK⟩ rfl rfl hl.1 rfl (lv_room (Nat.le_of_ble_eq_true rfl)) dX12_whole_16 ⟨Nat.zero_le _, Nat.zero_le _⟩) hP (gD_va hD rfl) hS (fun r5 u6 H locs hw hP hS => ?_)
    have hP : va_P (dC, dI) vwCl (mw q cI u6) H := hP
    have hf := bd_eq hw hf
    have hok := bd_ok hw hok
    have h7 : kX12_wholeOf u6 a1 r5 := hok
    refine gro_i (va_runV (As := [.int a1, .int r5]) (rest := [.ref (q 0)]) ⟨hx, hb, hml, hown, hts⟩ (mX12_wholeOf l dC dI cI cB cO cL q u6 a1 r5  h7) (cwV 2 hts gX12_whole_X12_wholeOf rfl rfl rfl (by decide +kernel) ⟨Nat.le_of_ble_eq_true rfl, Nat.le_of_ble_eq_true rfl⟩) ⟨gP_blind, va_recv hK hP (ci := 9) (q0 := 0) rfl rfl, gP_ok hP hK⟩ rfl rfl hl.1 rfl (lv_room (Nat.le_of_ble_eq_true rfl)) dX12_whole_19 ⟨Nat.zero_le _, Nat.zero_le _⟩) ?_
    refine gms_i (va_runV (As := [.int (pX12_wholeOf u6 a1 r5)]) (rest := []) ⟨hx, hb, hml, hown, hts⟩ (mX12_tells l dC dI cI cB cO cL q u6 (pX12_wholeOf u6 a1 r5) (gD_any hD) ) (cwV 1 hts gX12_whole_X12_tells rfl rfl rfl (by decide +kernel) ⟨Nat.le_of_ble_eq_true rfl, Nat.le_of_ble_eq_true rfl⟩) ⟨gP_blind, va_recv hK hP (ci := 9) (q0 := 0) rfl rfl, gP_ok hP hK⟩ rfl rfl hl.1 rfl (lv_room (Nat.le_of_ble_eq_true rfl)) dX12_whole_22 ⟨Nat.zero_le _, Nat.zero_le _⟩) hP (gD_va hD rfl) hS (fun r8 u9 H locs hw hP hS => ?_)
    have hP : va_P (dC, dI) vwCl (mw q cI u9) H := hP
    have hf := bd_eq hw hf
    refine lv_goto (tgt := 33) hx hb dX12_whole_25 (by decide) ?_
    exact e_mi C0 (hf.symm.trans hF) hP hS dX12_whole_33
noncomputable def pX12_parts_L9    : Int32 := 4
noncomputable def pX12_parts (a1 : Int32) : Int32 := if a1 = 0 then (pX12_parts_L9) else (if a1 = 2 then (pX12_parts_L9) else (if a1 = 1 then (3) else (1)))
abbrev rX12_parts : Room := { frames := 0, cells := 0, slots := 0, locals := 0 }
set_option maxHeartbeats 4000000 in
set_option maxRecDepth 100000 in
theorem mX12_parts (l : Launch) (dC : Nat → ClassId) (dI : Nat → Nat → Nat) (cI cB cO cL : ClassId)  (a1 : Int32) : Met l yX12_parts wsX12_parts rX12_parts (gP (dC, dI) (tYS cI cB cO cL) ([]) [.int a1]) (gRi (pX12_parts a1)) 0 0 (fun _ => False) := by
  refine gMet (cc := cX12_parts) (maxL := 1) (ret := some .int) [(0, .int a1)] (by decide) rfl rfl rfl ?_
  intro p e s mi below meth c C0 hK hP ls hl
  obtain ⟨hx, hb, hr, hml, hown, hts, hlocks⟩ := id C0
  have hown : s.vm.findClass RX12 = some mi.cls := hown
  obtain ⟨F, hF⟩ : ∃ F, F = pX12_parts a1 := ⟨_, rfl⟩
  have hf := hF
  have J_9 :  ∀ ls : Array Slot, lv_has ls 1 [] → F = pX12_parts_L9 → W p l e rX12_parts s mi ([.int a1] : List Value).toArray below meth c s.heap [] 0 0 (MQ below (gRi (pX12_parts a1)) ([.int a1] : List Value).toArray s 0 0 (fun _ => False)) (F0 mi 9 ls []) := by
    intro ls hl hf
    refine lv_iconst (v := 4) hx hb dX12_parts_9 (by decide) ?_
    refine lv_goto (tgt := 23) hx hb dX12_parts_10 (by decide) ?_
    exact e_ri C0 (hf.symm.trans hF) dX12_parts_23
  refine lv_iload_n hx hb dX12_parts_0 rfl (lv_at hl 0 rfl) ?_
  refine lv_if_eq (tgt := 9) hx hb dX12_parts_1 (by decide) (fun c1 => ?_) (fun c1 => ?_)
  · have hf := it_eq c1 hf
    exact J_9 _ (lv_sub hl [] rfl) hf
  · have hf := ie_eq c1 hf
    refine lv_iload_n hx hb dX12_parts_4 rfl (lv_at hl 0 rfl) ?_
    refine lv_iconst (v := 2) hx hb dX12_parts_5 (by decide) ?_
    refine lv_icmp_ne (tgt := 13) hx hb dX12_parts_6 (by decide) (fun c2 => ?_) (fun c2 => ?_)
    · have hf := ie_eq c2 hf
      refine lv_iload_n hx hb dX12_parts_13 rfl (lv_at hl 0 rfl) ?_
      refine lv_iconst (v := 1) hx hb dX12_parts_14 (by decide) ?_
      refine lv_icmp_ne (tgt := 22) hx hb dX12_parts_15 (by decide) (fun c3 => ?_) (fun c3 => ?_)
      · have hf := ie_eq c3 hf
        refine lv_iconst (v := 1) hx hb dX12_parts_22 (by decide) ?_
        exact e_ri C0 (hf.symm.trans hF) dX12_parts_23
      · have hf := it_eq c3 hf
        refine lv_iconst (v := 3) hx hb dX12_parts_18 (by decide) ?_
        refine lv_goto (tgt := 23) hx hb dX12_parts_19 (by decide) ?_
        exact e_ri C0 (hf.symm.trans hF) dX12_parts_23
    · have hf := it_eq c2 hf
      exact J_9 _ (lv_sub hl [] rfl) hf
noncomputable def pX12_partOf (m : MS) (a1 : Int32) (a2 : Int32) (a3 : Int32) : Int32 := if a1 = 3 then ((m.2.2 0) ((7 + a2).toNatClampNeg)) else ((m.2.2 0) ((((pX12_startOf a1) + ((pX12_wide a1) * a2)) + a3).toNatClampNeg))
def kX12_partOf (m : MS) (a1 : Int32) (a2 : Int32) (a3 : Int32) : Prop := if a1 = 3 then (vp_in (7 + a2) 122) else (vp_in (((pX12_startOf a1) + ((pX12_wide a1) * a2)) + a3) 122)
abbrev rX12_partOf : Room := { frames := 1, cells := 0, slots := 0, locals := 20 }
set_option maxHeartbeats 4000000 in
set_option maxRecDepth 100000 in
theorem mX12_partOf (l : Launch) (dC : Nat → ClassId) (dI : Nat → Nat → Nat) (cI cB cO cL : ClassId) (q : Nat → Nat) (m : MS) (a1 : Int32) (a2 : Int32) (a3 : Int32) (hok : kX12_partOf m a1 a2 a3) : Met l yX12_partOf wsX12_partOf rX12_partOf (gP (dC, dI) (tYS cI cB cO cL) (mw q cI m) [.ref (q 0), .int a1, .int a2, .int a3]) (gRi (pX12_partOf m a1 a2 a3)) 0 0 (fun _ => False) := by
  refine gMet (cc := cX12_partOf) (maxL := 4) (ret := some .int) [(0, .ref (q 0)), (1, .int a1), (2, .int a2), (3, .int a3)] (by decide) rfl rfl rfl ?_
  intro p e s mi below meth c C0 hK hP ls hl
  obtain ⟨hx, hb, hr, hml, hown, hts, hlocks⟩ := id C0
  have hown : s.vm.findClass RX12 = some mi.cls := hown
  obtain ⟨F, hF⟩ : ∃ F, F = pX12_partOf m a1 a2 a3 := ⟨_, rfl⟩
  have hf := hF
  have hin12 : ∀ w ∈ u_ws RX12 TX12 23, w ∈ wsX12_partOf := by decide +kernel
  have fl7 := hts (.fieldLink RX12 7 "ClickBenchModel" "s" "[I") (by decide +kernel)
  refine lv_iload_n hx hb dX12_partOf_0 rfl (lv_at hl 1 rfl) ?_
  refine lv_iconst (v := 3) hx hb dX12_partOf_1 (by decide) ?_
  refine lv_icmp_ne (tgt := 17) hx hb dX12_partOf_2 (by decide) (fun c1 => ?_) (fun c1 => ?_)
  · have hf := ie_eq c1 hf
    have hok := ie_ok c1 hok
    refine lv_aload_n hx hb dX12_partOf_17 rfl (lv_at hl 0 rfl) ?_
    refine va_get (D := (dC, dI)) (ci := 9) (v := .ref (q 1)) (C := RX12) (T := TX12) (N := 23) hx hb hts hin12 hown hK hP 0 rfl rfl 0 (by decide) fl7 (fun _ h9 => h9) rfl dX12_partOf_18 ?_
    refine lv_iload_n hx hb dX12_partOf_21 rfl (lv_at hl 1 rfl) ?_
    refine gro_i (va_runS (As := [.int a1]) (rest := [.ref (q 1)]) ⟨hx, hb, hml, hown, hts⟩ (mX12_startOf l dC dI cI cB cO cL  a1  ) (va_cwS 1 hts gX12_partOf_X12_startOf rfl rfl rfl (by decide +kernel) ⟨Nat.le_of_ble_eq_true rfl, Nat.le_of_ble_eq_true rfl⟩) ⟨gP_blind, gP_ok va_P_nil hK⟩ rfl rfl hl.1 rfl (lv_room (Nat.le_of_ble_eq_true rfl)) dX12_partOf_22 ⟨Nat.zero_le _, Nat.zero_le _⟩) ?_
    refine lv_iload_n hx hb dX12_partOf_25 rfl (lv_at hl 1 rfl) ?_
    refine gro_i (va_runS (As := [.int a1]) (rest := [.int (pX12_startOf a1), .ref (q 1)]) ⟨hx, hb, hml, hown, hts⟩ (mX12_wide l dC dI cI cB cO cL  a1  ) (va_cwS 1 hts gX12_partOf_X12_wide rfl rfl rfl (by decide +kernel) ⟨Nat.le_of_ble_eq_true rfl, Nat.le_of_ble_eq_true rfl⟩) ⟨gP_blind, gP_ok va_P_nil hK⟩ rfl rfl hl.1 rfl (lv_room (Nat.le_of_ble_eq_true rfl)) dX12_partOf_26 ⟨Nat.zero_le _, Nat.zero_le _⟩) ?_
    refine lv_iload_n hx hb dX12_partOf_29 rfl (lv_at hl 2 rfl) ?_
    refine lv_imul hx hb dX12_partOf_30 ?_
    refine lv_iadd hx hb dX12_partOf_31 ?_
    refine lv_iload_n hx hb dX12_partOf_32 rfl (lv_at hl 3 rfl) ?_
    refine lv_iadd hx hb dX12_partOf_33 ?_
    have h2 : vp_in (((pX12_startOf a1) + ((pX12_wide a1) * a2)) + a3) 122 := hok
    refine va_iald (D := (dC, dI)) (tys := (tYS cI cB cO cL)) hx hb hK hP 1 0 rfl rfl h2 dX12_partOf_34 ?_
    exact e_ri C0 (hf.symm.trans hF) dX12_partOf_35
  · have hf := it_eq c1 hf
    have hok := it_ok c1 hok
    refine lv_aload_n hx hb dX12_partOf_5 rfl (lv_at hl 0 rfl) ?_
    refine va_get (D := (dC, dI)) (ci := 9) (v := .ref (q 1)) (C := RX12) (T := TX12) (N := 23) hx hb hts hin12 hown hK hP 0 rfl rfl 0 (by decide) fl7 (fun _ h9 => h9) rfl dX12_partOf_6 ?_
    refine lv_bipush (v := 7) hx hb dX12_partOf_9 (by decide) ?_
    refine lv_iload_n hx hb dX12_partOf_11 rfl (lv_at hl 2 rfl) ?_
    refine lv_iadd hx hb dX12_partOf_12 ?_
    have h3 : vp_in (7 + a2) 122 := hok
    refine va_iald (D := (dC, dI)) (tys := (tYS cI cB cO cL)) hx hb hK hP 1 0 rfl rfl h3 dX12_partOf_13 ?_
    refine lv_goto (tgt := 35) hx hb dX12_partOf_14 (by decide) ?_
    exact e_ri C0 (hf.symm.trans hF) dX12_partOf_35
noncomputable def pX12_part_L21   (m_21 : MS) : Int32 × MS := bd (pX12_fails m_21 1) fun (r2 : Int32) (u3 : MS) => (r2, u3)
noncomputable def pX12_part_L53   (m_53 : MS) : Int32 × MS := bd (pX12_fails m_53 2) fun (r7 : Int32) (u8 : MS) => (r7, u8)
noncomputable def pX12_part_L50   (v1_50 : Int32) (v2_50 : Int32) (v3_50 : Int32) (t0_50 : Int32) (t1_50 : Int32) (m_50 : MS) : Int32 × MS := if t0_50 < t1_50 then (bd (pX12_tells m_50 (pX12_partOf m_50 v1_50 v2_50 v3_50)) fun (r12 : Int32) (u13 : MS) => (r12, u13)) else (pX12_part_L53 m_50)
def kX12_part_L50   (v1_50 : Int32) (v2_50 : Int32) (v3_50 : Int32) (t0_50 : Int32) (t1_50 : Int32) (m_50 : MS) : Prop := if t0_50 < t1_50 then (kX12_partOf m_50 v1_50 v2_50 v3_50) else (True)
noncomputable def pX12_part (m : MS) (a1 : Int32) (a2 : Int32) (a3 : Int32) : Int32 × MS := if (pX12_in a1 0 3) = true then (if a3 < 0 then (pX12_part_L21 m) else (if a3 < (pX12_parts a1) then (if a2 < 0 then (pX12_part_L53 m) else (if a1 = 3 then (pX12_part_L50 a1 a2 a3 a2 7 m) else (pX12_part_L50 a1 a2 a3 a2 ((m.2.2 0) ((2 + a1).toNatClampNeg)) m))) else (pX12_part_L21 m))) else (pX12_part_L21 m)
def kX12_part (m : MS) (a1 : Int32) (a2 : Int32) (a3 : Int32) : Prop := if (pX12_in a1 0 3) = true then (if a3 < 0 then (True) else (if a3 < (pX12_parts a1) then (if a2 < 0 then (True) else (if a1 = 3 then (kX12_part_L50 a1 a2 a3 a2 7 m) else ((vp_in (2 + a1) 122) ∧ (kX12_part_L50 a1 a2 a3 a2 ((m.2.2 0) ((2 + a1).toNatClampNeg)) m)))) else (True))) else (True)
abbrev rX12_part : Room := { frames := 2, cells := 0, slots := 0, locals := 43 }
set_option maxHeartbeats 4000000 in
set_option maxRecDepth 100000 in
theorem mX12_part (l : Launch) (dC : Nat → ClassId) (dI : Nat → Nat → Nat) (cI cB cO cL : ClassId) (q : Nat → Nat) (m : MS) (a1 : Int32) (a2 : Int32) (a3 : Int32) (hI : gD (fun _ => True) (mAd q)) (hok : kX12_part m a1 a2 a3) : Met l yX12_part wsX12_part rX12_part (gP (dC, dI) (tYS cI cB cO cL) (mw q cI m) [.ref (q 0), .int a1, .int a2, .int a3]) (gQi (dC, dI) (fun m9 => mw q cI m9) (wA (mw q cI m)) (pX12_part m a1 a2 a3)) 0 0 (wA (mw q cI m)) := by
  refine gMet (cc := cX12_part) (maxL := 4) (ret := some .int) [(0, .ref (q 0)), (1, .int a1), (2, .int a2), (3, .int a3)] (by decide) rfl rfl rfl ?_
  intro p e s mi below meth c C0 hK hP ls hl
  obtain ⟨hx, hb, hr, hml, hown, hts, hlocks⟩ := id C0
  have hown : s.vm.findClass RX12 = some mi.cls := hown
  have hS : va_S (wA (mw q cI m)) s.heap s.heap [] := va_S.rf
  have hD : gD (wA (mw q cI m)) (mAd q) := gD_wA (ws := mw q cI m) hI
  have hP : va_P (dC, dI) vwCl (mw q cI m) s.heap := hP
  obtain ⟨F, hF⟩ : ∃ F, F = pX12_part m a1 a2 a3 := ⟨_, rfl⟩
  have hf := hF
  have hin12 : ∀ w ∈ u_ws RX12 TX12 23, w ∈ wsX12_part := by decide +kernel
  have fl7 := hts (.fieldLink RX12 7 "ClickBenchModel" "s" "[I") (by decide +kernel)
  have J_21 : ∀ (m_21 : MS) (H : Heap) (locs : List Loc), va_P (dC, dI) vwCl (mw q cI m_21) H → va_S (wA (mw q cI m)) s.heap H locs → ∀ ls : Array Slot, lv_has ls 4 [(0, .ref (q 0))] → F = pX12_part_L21 m_21 → W p l e rX12_part s mi ([.ref (q 0), .int a1, .int a2, .int a3] : List Value).toArray below meth c H locs 0 0 (MQ below (gQi (dC, dI) (fun m9 => mw q cI m9) (wA (mw q cI m)) (pX12_part m a1 a2 a3)) ([.ref (q 0), .int a1, .int a2, .int a3] : List Value).toArray s 0 0 (wA (mw q cI m))) (F0 mi 21 ls []) := by
    intro m_21 H locs hP hS ls hl hf
    refine lv_aload_n hx hb dX12_part_21 rfl (lv_at hl 0 rfl) ?_
    refine lv_iconst (v := 1) hx hb dX12_part_22 (by decide) ?_
    refine gms_i (va_runV (As := [.int 1]) (rest := []) ⟨hx, hb, hml, hown, hts⟩ (mX12_fails l dC dI cI cB cO cL q m_21 1 (gD_any hD) ) (cwV 1 hts gX12_part_X12_fails rfl rfl rfl (by decide +kernel) ⟨Nat.le_of_ble_eq_true rfl, Nat.le_of_ble_eq_true rfl⟩) ⟨gP_blind, va_recv hK hP (ci := 9) (q0 := 0) rfl rfl, gP_ok hP hK⟩ rfl rfl hl.1 rfl (lv_room (Nat.le_of_ble_eq_true rfl)) dX12_part_23 ⟨Nat.zero_le _, Nat.zero_le _⟩) hP (gD_va hD rfl) hS (fun r2 u3 H locs hw hP hS => ?_)
    have hP : va_P (dC, dI) vwCl (mw q cI u3) H := hP
    have hf := bd_eq hw hf
    exact e_mi C0 (hf.symm.trans hF) hP hS dX12_part_26
  have J_53 : ∀ (m_53 : MS) (H : Heap) (locs : List Loc), va_P (dC, dI) vwCl (mw q cI m_53) H → va_S (wA (mw q cI m)) s.heap H locs → ∀ ls : Array Slot, lv_has ls 4 [(0, .ref (q 0))] → F = pX12_part_L53 m_53 → W p l e rX12_part s mi ([.ref (q 0), .int a1, .int a2, .int a3] : List Value).toArray below meth c H locs 0 0 (MQ below (gQi (dC, dI) (fun m9 => mw q cI m9) (wA (mw q cI m)) (pX12_part m a1 a2 a3)) ([.ref (q 0), .int a1, .int a2, .int a3] : List Value).toArray s 0 0 (wA (mw q cI m))) (F0 mi 53 ls []) := by
    intro m_53 H locs hP hS ls hl hf
    refine lv_aload_n hx hb dX12_part_53 rfl (lv_at hl 0 rfl) ?_
    refine lv_iconst (v := 2) hx hb dX12_part_54 (by decide) ?_
    refine gms_i (va_runV (As := [.int 2]) (rest := []) ⟨hx, hb, hml, hown, hts⟩ (mX12_fails l dC dI cI cB cO cL q m_53 2 (gD_any hD) ) (cwV 1 hts gX12_part_X12_fails rfl rfl rfl (by decide +kernel) ⟨Nat.le_of_ble_eq_true rfl, Nat.le_of_ble_eq_true rfl⟩) ⟨gP_blind, va_recv hK hP (ci := 9) (q0 := 0) rfl rfl, gP_ok hP hK⟩ rfl rfl hl.1 rfl (lv_room (Nat.le_of_ble_eq_true rfl)) dX12_part_55 ⟨Nat.zero_le _, Nat.zero_le _⟩) hP (gD_va hD rfl) hS (fun r7 u8 H locs hw hP hS => ?_)
    have hP : va_P (dC, dI) vwCl (mw q cI u8) H := hP
    have hf := bd_eq hw hf
    exact e_mi C0 (hf.symm.trans hF) hP hS dX12_part_58
  have J_50 : ∀ (v1_50 : Int32) (v2_50 : Int32) (v3_50 : Int32) (t0_50 : Int32) (t1_50 : Int32) (m_50 : MS) (H : Heap) (locs : List Loc), va_P (dC, dI) vwCl (mw q cI m_50) H → va_S (wA (mw q cI m)) s.heap H locs → ∀ ls : Array Slot, lv_has ls 4 [(0, .ref (q 0)), (1, .int v1_50), (2, .int v2_50), (3, .int v3_50)] → F = pX12_part_L50 v1_50 v2_50 v3_50 t0_50 t1_50 m_50 → kX12_part_L50 v1_50 v2_50 v3_50 t0_50 t1_50 m_50 → W p l e rX12_part s mi ([.ref (q 0), .int a1, .int a2, .int a3] : List Value).toArray below meth c H locs 0 0 (MQ below (gQi (dC, dI) (fun m9 => mw q cI m9) (wA (mw q cI m)) (pX12_part m a1 a2 a3)) ([.ref (q 0), .int a1, .int a2, .int a3] : List Value).toArray s 0 0 (wA (mw q cI m))) (F0 mi 50 ls [.int t1_50, .int t0_50]) := by
    intro v1_50 v2_50 v3_50 t0_50 t1_50 m_50 H locs hP hS ls hl hf hok
    refine lv_icmp_lt (tgt := 59) hx hb dX12_part_50 (by decide) (fun c10 => ?_) (fun c10 => ?_)
    · have hf := it_eq c10 hf
      have hok := it_ok c10 hok
      refine lv_aload_n hx hb dX12_part_59 rfl (lv_at hl 0 rfl) ?_
      refine lv_aload_n hx hb dX12_part_60 rfl (lv_at hl 0 rfl) ?_
      refine lv_iload_n hx hb dX12_part_61 rfl (lv_at hl 1 rfl) ?_
      refine lv_iload_n hx hb dX12_part_62 rfl (lv_at hl 2 rfl) ?_
      refine lv_iload_n hx hb dX12_part_63 rfl (lv_at hl 3 rfl) ?_
      have h11 : kX12_partOf m_50 v1_50 v2_50 v3_50 := hok
      refine gro_i (va_runV (As := [.int v1_50, .int v2_50, .int v3_50]) (rest := [.ref (q 0)]) ⟨hx, hb, hml, hown, hts⟩ (mX12_partOf l dC dI cI cB cO cL q m_50 v1_50 v2_50 v3_50  h11) (cwV 3 hts gX12_part_X12_partOf rfl rfl rfl (by decide +kernel) ⟨Nat.le_of_ble_eq_true rfl, Nat.le_of_ble_eq_true rfl⟩) ⟨gP_blind, va_recv hK hP (ci := 9) (q0 := 0) rfl rfl, gP_ok hP hK⟩ rfl rfl hl.1 rfl (lv_room (Nat.le_of_ble_eq_true rfl)) dX12_part_64 ⟨Nat.zero_le _, Nat.zero_le _⟩) ?_
      refine gms_i (va_runV (As := [.int (pX12_partOf m_50 v1_50 v2_50 v3_50)]) (rest := []) ⟨hx, hb, hml, hown, hts⟩ (mX12_tells l dC dI cI cB cO cL q m_50 (pX12_partOf m_50 v1_50 v2_50 v3_50) (gD_any hD) ) (cwV 1 hts gX12_part_X12_tells rfl rfl rfl (by decide +kernel) ⟨Nat.le_of_ble_eq_true rfl, Nat.le_of_ble_eq_true rfl⟩) ⟨gP_blind, va_recv hK hP (ci := 9) (q0 := 0) rfl rfl, gP_ok hP hK⟩ rfl rfl hl.1 rfl (lv_room (Nat.le_of_ble_eq_true rfl)) dX12_part_67 ⟨Nat.zero_le _, Nat.zero_le _⟩) hP (gD_va hD rfl) hS (fun r12 u13 H locs hw hP hS => ?_)
      have hP : va_P (dC, dI) vwCl (mw q cI u13) H := hP
      have hf := bd_eq hw hf
      exact e_mi C0 (hf.symm.trans hF) hP hS dX12_part_70
    · have hf := ie_eq c10 hf
      exact J_53 m_50 _ _ hP hS _ (lv_sub hl [0] rfl) hf
  refine lv_iload_n hx hb dX12_part_0 rfl (lv_at hl 1 rfl) ?_
  refine lv_iconst (v := 0) hx hb dX12_part_1 (by decide) ?_
  refine lv_iconst (v := 3) hx hb dX12_part_2 (by decide) ?_
  refine gro_i (va_runS (As := [.int a1, .int 0, .int 3]) (rest := []) ⟨hx, hb, hml, hown, hts⟩ (mX12_in l dC dI cI cB cO cL  a1 0 3  ) (va_cwS 3 hts gX12_part_X12_in rfl rfl rfl (by decide +kernel) ⟨Nat.le_of_ble_eq_true rfl, Nat.le_of_ble_eq_true rfl⟩) ⟨gP_blind, gP_ok va_P_nil hK⟩ rfl rfl hl.1 rfl (lv_room (Nat.le_of_ble_eq_true rfl)) dX12_part_3 ⟨Nat.zero_le _, Nat.zero_le _⟩) ?_
  refine lv_if_eq (tgt := 21) hx hb dX12_part_6 (by decide) (fun c1 => ?_) (fun c1 => ?_)
  · have c1 := bz_f c1
    have hf := ie_eq c1 hf
    exact J_21 m _ _ hP hS _ (lv_sub hl [0] rfl) hf
  · have c1 := bz_t c1
    have hf := it_eq c1 hf
    have hok := it_ok c1 hok
    refine lv_iload_n hx hb dX12_part_9 rfl (lv_at hl 3 rfl) ?_
    refine lv_if_lt (tgt := 21) hx hb dX12_part_10 (by decide) (fun c4 => ?_) (fun c4 => ?_)
    · have hf := it_eq c4 hf
      exact J_21 m _ _ hP hS _ (lv_sub hl [0] rfl) hf
    · have hf := ie_eq c4 hf
      have hok := ie_ok c4 hok
      refine lv_iload_n hx hb dX12_part_13 rfl (lv_at hl 3 rfl) ?_
      refine lv_iload_n hx hb dX12_part_14 rfl (lv_at hl 1 rfl) ?_
      refine gro_i (va_runS (As := [.int a1]) (rest := [.int a3]) ⟨hx, hb, hml, hown, hts⟩ (mX12_parts l dC dI cI cB cO cL  a1  ) (va_cwS 1 hts gX12_part_X12_parts rfl rfl rfl (by decide +kernel) ⟨Nat.le_of_ble_eq_true rfl, Nat.le_of_ble_eq_true rfl⟩) ⟨gP_blind, gP_ok va_P_nil hK⟩ rfl rfl hl.1 rfl (lv_room (Nat.le_of_ble_eq_true rfl)) dX12_part_15 ⟨Nat.zero_le _, Nat.zero_le _⟩) ?_
      refine lv_icmp_lt (tgt := 27) hx hb dX12_part_18 (by decide) (fun c5 => ?_) (fun c5 => ?_)
      · have hf := it_eq c5 hf
        have hok := it_ok c5 hok
        refine lv_iload_n hx hb dX12_part_27 rfl (lv_at hl 2 rfl) ?_
        refine lv_if_lt (tgt := 53) hx hb dX12_part_28 (by decide) (fun c6 => ?_) (fun c6 => ?_)
        · have hf := it_eq c6 hf
          exact J_53 m _ _ hP hS _ (lv_sub hl [0] rfl) hf
        · have hf := ie_eq c6 hf
          have hok := ie_ok c6 hok
          refine lv_iload_n hx hb dX12_part_31 rfl (lv_at hl 2 rfl) ?_
          refine lv_iload_n hx hb dX12_part_32 rfl (lv_at hl 1 rfl) ?_
          refine lv_iconst (v := 3) hx hb dX12_part_33 (by decide) ?_
          refine lv_icmp_ne (tgt := 42) hx hb dX12_part_34 (by decide) (fun c9 => ?_) (fun c9 => ?_)
          · have hf := ie_eq c9 hf
            have hok := ie_ok c9 hok
            refine lv_aload_n hx hb dX12_part_42 rfl (lv_at hl 0 rfl) ?_
            refine va_get (D := (dC, dI)) (ci := 9) (v := .ref (q 1)) (C := RX12) (T := TX12) (N := 23) hx hb hts hin12 hown hK hP 0 rfl rfl 0 (by decide) fl7 (fun _ h9 => h9) rfl dX12_part_43 ?_
            refine lv_iconst (v := 2) hx hb dX12_part_46 (by decide) ?_
            refine lv_iload_n hx hb dX12_part_47 rfl (lv_at hl 1 rfl) ?_
            refine lv_iadd hx hb dX12_part_48 ?_
            obtain ⟨h14, hok⟩ := hok
            refine va_iald (D := (dC, dI)) (tys := (tYS cI cB cO cL)) hx hb hK hP 1 0 rfl rfl h14 dX12_part_49 ?_
            exact J_50 a1 a2 a3 a2 ((m.2.2 0) ((2 + a1).toNatClampNeg)) m _ _ hP hS _ (lv_sub hl [0, 1, 2, 3] rfl) hf hok
          · have hf := it_eq c9 hf
            have hok := it_ok c9 hok
            refine lv_bipush (v := 7) hx hb dX12_part_37 (by decide) ?_
            refine lv_goto (tgt := 50) hx hb dX12_part_39 (by decide) ?_
            exact J_50 a1 a2 a3 a2 7 m _ _ hP hS _ (lv_sub hl [0, 1, 2, 3] rfl) hf hok
      · have hf := ie_eq c5 hf
        exact J_21 m _ _ hP hS _ (lv_sub hl [0] rfl) hf
noncomputable def pX12_type (m : MS) (a1 : Int32) : Int32 × MS := if (pX12_in a1 0 127) = true then (if (m.1 1) = 150 then (bd (pX12_fails m 2) fun (r8 : Int32) (u9 : MS) => (r8, u9)) else (lt (msa m 3 (upd (m.2.2 3) ((m.1 1).toNatClampNeg) a1)) fun (m_4 : MS) => lt (msi m_4 1 ((m_4.1 1) + 1)) fun (m_5 : MS) => bd (pX12_tells m_5 (m_5.1 1)) fun (r6 : Int32) (u7 : MS) => (r6, u7))) else (bd (pX12_fails m 1) fun (r10 : Int32) (u11 : MS) => (r10, u11))
def kX12_type (m : MS) (a1 : Int32) : Prop := if (pX12_in a1 0 127) = true then (if (m.1 1) = 150 then (True) else (vp_in (m.1 1) 150)) else (True)
abbrev rX12_type : Room := { frames := 1, cells := 0, slots := 0, locals := 22 }
set_option maxHeartbeats 4000000 in
set_option maxRecDepth 100000 in
theorem mX12_type (l : Launch) (dC : Nat → ClassId) (dI : Nat → Nat → Nat) (cI cB cO cL : ClassId) (q : Nat → Nat) (m : MS) (a1 : Int32) (hI : gD (fun _ => True) (mAd q)) (hok : kX12_type m a1) : Met l yX12_type wsX12_type rX12_type (gP (dC, dI) (tYS cI cB cO cL) (mw q cI m) [.ref (q 0), .int a1]) (gQi (dC, dI) (fun m9 => mw q cI m9) (wA (mw q cI m)) (pX12_type m a1)) 0 0 (wA (mw q cI m)) := by
  refine gMet (cc := cX12_type) (maxL := 2) (ret := some .int) [(0, .ref (q 0)), (1, .int a1)] (by decide) rfl rfl rfl ?_
  intro p e s mi below meth c C0 hK hP ls hl
  obtain ⟨hx, hb, hr, hml, hown, hts, hlocks⟩ := id C0
  have hown : s.vm.findClass RX12 = some mi.cls := hown
  have hS : va_S (wA (mw q cI m)) s.heap s.heap [] := va_S.rf
  have hD : gD (wA (mw q cI m)) (mAd q) := gD_wA (ws := mw q cI m) hI
  have hP : va_P (dC, dI) vwCl (mw q cI m) s.heap := hP
  obtain ⟨F, hF⟩ : ∃ F, F = pX12_type m a1 := ⟨_, rfl⟩
  have hf := hF
  have hin12 : ∀ w ∈ u_ws RX12 TX12 23, w ∈ wsX12_type := by decide +kernel
  have fl235 := hts (.fieldLink RX12 235 "ClickBenchModel" "typed" "I") (by decide +kernel)
  have fl19 := hts (.fieldLink RX12 19 "ClickBenchModel" "text" "[I") (by decide +kernel)
  refine lv_iload_n hx hb dX12_type_0 rfl (lv_at hl 1 rfl) ?_
  refine lv_iconst (v := 0) hx hb dX12_type_1 (by decide) ?_
  refine lv_bipush (v := 127) hx hb dX12_type_2 (by decide) ?_
  refine gro_i (va_runS (As := [.int a1, .int 0, .int 127]) (rest := []) ⟨hx, hb, hml, hown, hts⟩ (mX12_in l dC dI cI cB cO cL  a1 0 127  ) (va_cwS 3 hts gX12_type_X12_in rfl rfl rfl (by decide +kernel) ⟨Nat.le_of_ble_eq_true rfl, Nat.le_of_ble_eq_true rfl⟩) ⟨gP_blind, gP_ok va_P_nil hK⟩ rfl rfl hl.1 rfl (lv_room (Nat.le_of_ble_eq_true rfl)) dX12_type_4 ⟨Nat.zero_le _, Nat.zero_le _⟩) ?_
  refine lv_if_ne (tgt := 16) hx hb dX12_type_7 (by decide) (fun c1 => ?_) (fun c1 => ?_)
  · have c1 := bz_t c1
    have hf := it_eq c1 hf
    have hok := it_ok c1 hok
    refine lv_aload_n hx hb dX12_type_16 rfl (lv_at hl 0 rfl) ?_
    refine va_get (D := (dC, dI)) (ci := 9) (v := .int (m.1 1)) (C := RX12) (T := TX12) (N := 23) hx hb hts hin12 hown hK hP 0 rfl rfl 5 (by decide) fl235 (fun _ h9 => h9) rfl dX12_type_17 ?_
    refine lv_sipush (v := 150) hx hb dX12_type_20 (by decide) ?_
    refine lv_icmp_ne (tgt := 32) hx hb dX12_type_23 (by decide) (fun c2 => ?_) (fun c2 => ?_)
    · have hf := ie_eq c2 hf
      have hok := ie_ok c2 hok
      refine lv_aload_n hx hb dX12_type_32 rfl (lv_at hl 0 rfl) ?_
      refine va_get (D := (dC, dI)) (ci := 9) (v := .ref (q 4)) (C := RX12) (T := TX12) (N := 23) hx hb hts hin12 hown hK hP 0 rfl rfl 4 (by decide) fl19 (fun _ h9 => h9) rfl dX12_type_33 ?_
      refine lv_aload_n hx hb dX12_type_36 rfl (lv_at hl 0 rfl) ?_
      refine va_get (D := (dC, dI)) (ci := 9) (v := .int (m.1 1)) (C := RX12) (T := TX12) (N := 23) hx hb hts hin12 hown hK hP 0 rfl rfl 5 (by decide) fl235 (fun _ h9 => h9) rfl dX12_type_37 ?_
      refine lv_iload_n hx hb dX12_type_40 rfl (lv_at hl 1 rfl) ?_
      have h3 : vp_in (m.1 1) 150 := hok
      refine va_iast (D := (dC, dI)) (tys := (tYS cI cB cO cL)) hx hb hK hP (gD_va hD rfl) hS 4 0 rfl rfl h3 dX12_type_41 (fun H locs hP _ hS => ?_)
      obtain ⟨m_4, em_4⟩ : ∃ z9 : MS, z9 = msa m 3 (upd (m.2.2 3) ((m.1 1).toNatClampNeg) a1) := ⟨_, rfl⟩
      have hP : va_P (dC, dI) vwCl (mw q cI m_4) H := by rw [em_4]; exact hP
      have hf := lt_eq em_4 hf
      refine lv_aload_n hx hb dX12_type_42 rfl (lv_at hl 0 rfl) ?_
      refine lv_dup hx hb dX12_type_43 rfl ?_
      refine va_get (D := (dC, dI)) (ci := 9) (v := .int (m_4.1 1)) (C := RX12) (T := TX12) (N := 23) hx hb hts hin12 hown hK hP 0 rfl rfl 5 (by decide) fl235 (fun _ h9 => h9) rfl dX12_type_44 ?_
      refine lv_iconst (v := 1) hx hb dX12_type_47 (by decide) ?_
      refine lv_iadd hx hb dX12_type_48 ?_
      refine va_put (D := (dC, dI)) (ci := 9) (v := .int ((m_4.1 1) + 1)) (ty := .int) (C := RX12) (T := TX12) (N := 23) hx hb hts hin12 tyX12 tyX12_ok nmX12 hown hK hP (gD_va hD rfl) hS 0 rfl rfl 5 (by decide) fl235 (fun _ h9 => h9) rfl (by decide +kernel) rfl rfl (Nat.le_of_ble_eq_true rfl) dX12_type_49 (fun H locs hP _ hS => ?_)
      obtain ⟨m_5, em_5⟩ : ∃ z9 : MS, z9 = msi m_4 1 ((m_4.1 1) + 1) := ⟨_, rfl⟩
      have hP : va_P (dC, dI) vwCl (mw q cI m_5) H := by rw [em_5]; exact hP
      have hf := lt_eq em_5 hf
      refine lv_aload_n hx hb dX12_type_52 rfl (lv_at hl 0 rfl) ?_
      refine lv_aload_n hx hb dX12_type_53 rfl (lv_at hl 0 rfl) ?_
      refine va_get (D := (dC, dI)) (ci := 9) (v := .int (m_5.1 1)) (C := RX12) (T := TX12) (N := 23) hx hb hts hin12 hown hK hP 0 rfl rfl 5 (by decide) fl235 (fun _ h9 => h9) rfl dX12_type_54 ?_
      refine gms_i (va_runV (As := [.int (m_5.1 1)]) (rest := []) ⟨hx, hb, hml, hown, hts⟩ (mX12_tells l dC dI cI cB cO cL q m_5 (m_5.1 1) (gD_any hD) ) (cwV 1 hts gX12_type_X12_tells rfl rfl rfl (by decide +kernel) ⟨Nat.le_of_ble_eq_true rfl, Nat.le_of_ble_eq_true rfl⟩) ⟨gP_blind, va_recv hK hP (ci := 9) (q0 := 0) rfl rfl, gP_ok hP hK⟩ rfl rfl hl.1 rfl (lv_room (Nat.le_of_ble_eq_true rfl)) dX12_type_57 ⟨Nat.zero_le _, Nat.zero_le _⟩) hP (gD_va hD rfl) hS (fun r6 u7 H locs hw hP hS => ?_)
      have hP : va_P (dC, dI) vwCl (mw q cI u7) H := hP
      have hf := bd_eq hw hf
      exact e_mi C0 (hf.symm.trans hF) hP hS dX12_type_60
    · have hf := it_eq c2 hf
      refine lv_aload_n hx hb dX12_type_26 rfl (lv_at hl 0 rfl) ?_
      refine lv_iconst (v := 2) hx hb dX12_type_27 (by decide) ?_
      refine gms_i (va_runV (As := [.int 2]) (rest := []) ⟨hx, hb, hml, hown, hts⟩ (mX12_fails l dC dI cI cB cO cL q m 2 (gD_any hD) ) (cwV 1 hts gX12_type_X12_fails rfl rfl rfl (by decide +kernel) ⟨Nat.le_of_ble_eq_true rfl, Nat.le_of_ble_eq_true rfl⟩) ⟨gP_blind, va_recv hK hP (ci := 9) (q0 := 0) rfl rfl, gP_ok hP hK⟩ rfl rfl hl.1 rfl (lv_room (Nat.le_of_ble_eq_true rfl)) dX12_type_28 ⟨Nat.zero_le _, Nat.zero_le _⟩) hP (gD_va hD rfl) hS (fun r8 u9 H locs hw hP hS => ?_)
      have hP : va_P (dC, dI) vwCl (mw q cI u9) H := hP
      have hf := bd_eq hw hf
      exact e_mi C0 (hf.symm.trans hF) hP hS dX12_type_31
  · have c1 := bz_f c1
    have hf := ie_eq c1 hf
    refine lv_aload_n hx hb dX12_type_10 rfl (lv_at hl 0 rfl) ?_
    refine lv_iconst (v := 1) hx hb dX12_type_11 (by decide) ?_
    refine gms_i (va_runV (As := [.int 1]) (rest := []) ⟨hx, hb, hml, hown, hts⟩ (mX12_fails l dC dI cI cB cO cL q m 1 (gD_any hD) ) (cwV 1 hts gX12_type_X12_fails rfl rfl rfl (by decide +kernel) ⟨Nat.le_of_ble_eq_true rfl, Nat.le_of_ble_eq_true rfl⟩) ⟨gP_blind, va_recv hK hP (ci := 9) (q0 := 0) rfl rfl, gP_ok hP hK⟩ rfl rfl hl.1 rfl (lv_room (Nat.le_of_ble_eq_true rfl)) dX12_type_12 ⟨Nat.zero_le _, Nat.zero_le _⟩) hP (gD_va hD rfl) hS (fun r10 u11 H locs hw hP hS => ?_)
    have hP : va_P (dC, dI) vwCl (mw q cI u11) H := hP
    have hf := bd_eq hw hf
    exact e_mi C0 (hf.symm.trans hF) hP hS dX12_type_15
noncomputable def pX12_clearCommands (m : MS) : Int32 × MS := lt (m.1 1) fun (x1 : Int32) => lt (msi m 1 0) fun (m_2 : MS) => bd (pX12_tells m_2 x1) fun (r3 : Int32) (u4 : MS) => (r3, u4)
abbrev rX12_clearCommands : Room := { frames := 1, cells := 0, slots := 0, locals := 21 }
set_option maxHeartbeats 4000000 in
set_option maxRecDepth 100000 in
theorem mX12_clearCommands (l : Launch) (dC : Nat → ClassId) (dI : Nat → Nat → Nat) (cI cB cO cL : ClassId) (q : Nat → Nat) (m : MS) (hI : gD (fun _ => True) (mAd q)) : Met l yX12_clearCommands wsX12_clearCommands rX12_clearCommands (gP (dC, dI) (tYS cI cB cO cL) (mw q cI m) [.ref (q 0)]) (gQi (dC, dI) (fun m9 => mw q cI m9) (wA (mw q cI m)) (pX12_clearCommands m)) 0 0 (wA (mw q cI m)) := by
  refine gMet (cc := cX12_clearCommands) (maxL := 2) (ret := some .int) [(0, .ref (q 0))] (by decide) rfl rfl rfl ?_
  intro p e s mi below meth c C0 hK hP ls hl
  obtain ⟨hx, hb, hr, hml, hown, hts, hlocks⟩ := id C0
  have hown : s.vm.findClass RX12 = some mi.cls := hown
  have hS : va_S (wA (mw q cI m)) s.heap s.heap [] := va_S.rf
  have hD : gD (wA (mw q cI m)) (mAd q) := gD_wA (ws := mw q cI m) hI
  have hP : va_P (dC, dI) vwCl (mw q cI m) s.heap := hP
  obtain ⟨F, hF⟩ : ∃ F, F = pX12_clearCommands m := ⟨_, rfl⟩
  have hf := hF
  have hin12 : ∀ w ∈ u_ws RX12 TX12 23, w ∈ wsX12_clearCommands := by decide +kernel
  have fl235 := hts (.fieldLink RX12 235 "ClickBenchModel" "typed" "I") (by decide +kernel)
  refine lv_aload_n hx hb dX12_clearCommands_0 rfl (lv_at hl 0 rfl) ?_
  refine va_get (D := (dC, dI)) (ci := 9) (v := .int (m.1 1)) (C := RX12) (T := TX12) (N := 23) hx hb hts hin12 hown hK hP 0 rfl rfl 5 (by decide) fl235 (fun _ h9 => h9) rfl dX12_clearCommands_1 ?_
  refine lv_topi (fun x1 ex1 => ?_)
  have hf := lt_eq ex1 hf
  refine lv_istore_n (lv' := [(1, .int x1), (0, .ref (q 0))]) hx hb dX12_clearCommands_4 rfl hl (by decide) rfl (fun ls hl => ?_)
  refine lv_aload_n hx hb dX12_clearCommands_5 rfl (lv_at hl 1 rfl) ?_
  refine lv_iconst (v := 0) hx hb dX12_clearCommands_6 (by decide) ?_
  refine va_put (D := (dC, dI)) (ci := 9) (v := .int 0) (ty := .int) (C := RX12) (T := TX12) (N := 23) hx hb hts hin12 tyX12 tyX12_ok nmX12 hown hK hP (gD_va hD rfl) hS 0 rfl rfl 5 (by decide) fl235 (fun _ h9 => h9) rfl (by decide +kernel) rfl rfl (Nat.le_of_ble_eq_true rfl) dX12_clearCommands_7 (fun H locs hP _ hS => ?_)
  obtain ⟨m_2, em_2⟩ : ∃ z9 : MS, z9 = msi m 1 0 := ⟨_, rfl⟩
  have hP : va_P (dC, dI) vwCl (mw q cI m_2) H := by rw [em_2]; exact hP
  have hf := lt_eq em_2 hf
  refine lv_aload_n hx hb dX12_clearCommands_10 rfl (lv_at hl 1 rfl) ?_
  refine lv_iload_n hx hb dX12_clearCommands_11 rfl (lv_at hl 0 rfl) ?_
  refine gms_i (va_runV (As := [.int x1]) (rest := []) ⟨hx, hb, hml, hown, hts⟩ (mX12_tells l dC dI cI cB cO cL q m_2 x1 (gD_any hD) ) (cwV 1 hts gX12_clearCommands_X12_tells rfl rfl rfl (by decide +kernel) ⟨Nat.le_of_ble_eq_true rfl, Nat.le_of_ble_eq_true rfl⟩) ⟨gP_blind, va_recv hK hP (ci := 9) (q0 := 0) rfl rfl, gP_ok hP hK⟩ rfl rfl hl.1 rfl (lv_room (Nat.le_of_ble_eq_true rfl)) dX12_clearCommands_12 ⟨Nat.zero_le _, Nat.zero_le _⟩) hP (gD_va hD rfl) hS (fun r3 u4 H locs hw hP hS => ?_)
  have hP : va_P (dC, dI) vwCl (mw q cI u4) H := hP
  have hf := bd_eq hw hf
  exact e_mi C0 (hf.symm.trans hF) hP hS dX12_clearCommands_15
noncomputable def pX12_isAt (m : MS) (a1 : Int32) (a2 : Int32) : Bool := if (m.1 1) ≤ (m.1 7) then (false) else (if (pX12_in ((m.2.2 3) ((m.1 7).toNatClampNeg)) a1 a2) = true then (true) else (false))
def kX12_isAt (m : MS) (a1 : Int32) (a2 : Int32) : Prop := if (m.1 1) ≤ (m.1 7) then (True) else (vp_in (m.1 7) 150)
abbrev rX12_isAt : Room := { frames := 1, cells := 0, slots := 0, locals := 22 }
set_option maxHeartbeats 4000000 in
set_option maxRecDepth 100000 in
theorem mX12_isAt (l : Launch) (dC : Nat → ClassId) (dI : Nat → Nat → Nat) (cI cB cO cL : ClassId) (q : Nat → Nat) (m : MS) (a1 : Int32) (a2 : Int32) (hok : kX12_isAt m a1 a2) : Met l yX12_isAt wsX12_isAt rX12_isAt (gP (dC, dI) (tYS cI cB cO cL) (mw q cI m) [.ref (q 0), .int a1, .int a2]) (gRz (pX12_isAt m a1 a2)) 0 0 (fun _ => False) := by
  refine gMet (cc := cX12_isAt) (maxL := 3) (ret := some .boolean) [(0, .ref (q 0)), (1, .int a1), (2, .int a2)] (by decide) rfl rfl rfl ?_
  intro p e s mi below meth c C0 hK hP ls hl
  obtain ⟨hx, hb, hr, hml, hown, hts, hlocks⟩ := id C0
  have hown : s.vm.findClass RX12 = some mi.cls := hown
  obtain ⟨F, hF⟩ : ∃ F, F = pX12_isAt m a1 a2 := ⟨_, rfl⟩
  have hf := hF
  have hin12 : ∀ w ∈ u_ws RX12 TX12 23, w ∈ wsX12_isAt := by decide +kernel
  have fl238 := hts (.fieldLink RX12 238 "ClickBenchModel" "spot" "I") (by decide +kernel)
  have fl235 := hts (.fieldLink RX12 235 "ClickBenchModel" "typed" "I") (by decide +kernel)
  have fl19 := hts (.fieldLink RX12 19 "ClickBenchModel" "text" "[I") (by decide +kernel)
  refine lv_aload_n hx hb dX12_isAt_0 rfl (lv_at hl 0 rfl) ?_
  refine va_get (D := (dC, dI)) (ci := 9) (v := .int (m.1 7)) (C := RX12) (T := TX12) (N := 23) hx hb hts hin12 hown hK hP 0 rfl rfl 19 (by decide) fl238 (fun _ h9 => h9) rfl dX12_isAt_1 ?_
  refine lv_aload_n hx hb dX12_isAt_4 rfl (lv_at hl 0 rfl) ?_
  refine va_get (D := (dC, dI)) (ci := 9) (v := .int (m.1 1)) (C := RX12) (T := TX12) (N := 23) hx hb hts hin12 hown hK hP 0 rfl rfl 5 (by decide) fl235 (fun _ h9 => h9) rfl dX12_isAt_5 ?_
  refine lv_icmp_ge (tgt := 32) hx hb dX12_isAt_8 (by decide) (fun c1 => ?_) (fun c1 => ?_)
  · have hf := it_eq c1 hf
    refine lv_iconst (v := 0) hx hb dX12_isAt_32 (by decide) ?_
    exact e_rz C0 (b := false) rfl (hf.symm.trans hF) dX12_isAt_33
  · have hf := ie_eq c1 hf
    have hok := ie_ok c1 hok
    refine lv_aload_n hx hb dX12_isAt_11 rfl (lv_at hl 0 rfl) ?_
    refine va_get (D := (dC, dI)) (ci := 9) (v := .ref (q 4)) (C := RX12) (T := TX12) (N := 23) hx hb hts hin12 hown hK hP 0 rfl rfl 4 (by decide) fl19 (fun _ h9 => h9) rfl dX12_isAt_12 ?_
    refine lv_aload_n hx hb dX12_isAt_15 rfl (lv_at hl 0 rfl) ?_
    refine va_get (D := (dC, dI)) (ci := 9) (v := .int (m.1 7)) (C := RX12) (T := TX12) (N := 23) hx hb hts hin12 hown hK hP 0 rfl rfl 19 (by decide) fl238 (fun _ h9 => h9) rfl dX12_isAt_16 ?_
    have h3 : vp_in (m.1 7) 150 := hok
    refine va_iald (D := (dC, dI)) (tys := (tYS cI cB cO cL)) hx hb hK hP 4 0 rfl rfl h3 dX12_isAt_19 ?_
    refine lv_iload_n hx hb dX12_isAt_20 rfl (lv_at hl 1 rfl) ?_
    refine lv_iload_n hx hb dX12_isAt_21 rfl (lv_at hl 2 rfl) ?_
    refine gro_i (va_runS (As := [.int ((m.2.2 3) ((m.1 7).toNatClampNeg)), .int a1, .int a2]) (rest := []) ⟨hx, hb, hml, hown, hts⟩ (mX12_in l dC dI cI cB cO cL  ((m.2.2 3) ((m.1 7).toNatClampNeg)) a1 a2  ) (va_cwS 3 hts gX12_isAt_X12_in rfl rfl rfl (by decide +kernel) ⟨Nat.le_of_ble_eq_true rfl, Nat.le_of_ble_eq_true rfl⟩) ⟨gP_blind, gP_ok va_P_nil hK⟩ rfl rfl hl.1 rfl (lv_room (Nat.le_of_ble_eq_true rfl)) dX12_isAt_22 ⟨Nat.zero_le _, Nat.zero_le _⟩) ?_
    refine lv_if_eq (tgt := 32) hx hb dX12_isAt_25 (by decide) (fun c2 => ?_) (fun c2 => ?_)
    · have c2 := bz_f c2
      have hf := ie_eq c2 hf
      refine lv_iconst (v := 0) hx hb dX12_isAt_32 (by decide) ?_
      exact e_rz C0 (b := false) rfl (hf.symm.trans hF) dX12_isAt_33
    · have c2 := bz_t c2
      have hf := it_eq c2 hf
      refine lv_iconst (v := 1) hx hb dX12_isAt_28 (by decide) ?_
      refine lv_goto (tgt := 33) hx hb dX12_isAt_29 (by decide) ?_
      exact e_rz C0 (b := true) rfl (hf.symm.trans hF) dX12_isAt_33
noncomputable def bX12_skips_L0   (q_0 : MS → MS) (m_0 : MS) : MS := if (pX12_isAt m_0 32 32) = true then (lt (msi m_0 7 ((m_0.1 7) + 1)) fun (m_3 : MS) => q_0 m_3) else (m_0)
noncomputable def pX12_skips_L0   : Nat → MS → MS
  | 0 => fun m_0 => (m_0)
  | n + 1 => bX12_skips_L0   (pX12_skips_L0   n)
def kbX12_skips_L0   (Q_0 : MS → Prop) (m_0 : MS) : Prop := (kX12_isAt m_0 32 32) ∧ (if (pX12_isAt m_0 32 32) = true then (lt (msi m_0 7 ((m_0.1 7) + 1)) fun (m_3 : MS) => Q_0 m_3) else (True))
noncomputable def kX12_skips_L0   : Nat → MS → Prop
  | 0 => fun _ => False
  | n + 1 => kbX12_skips_L0   (kX12_skips_L0   n)
noncomputable def pX12_skips (m : MS) : MS := pX12_skips_L0 fu m
def kX12_skips (m : MS) : Prop := kX12_skips_L0 fu m
abbrev rX12_skips : Room := { frames := 2, cells := 0, slots := 0, locals := 44 }
set_option maxHeartbeats 4000000 in
set_option maxRecDepth 100000 in
theorem mX12_skips (l : Launch) (dC : Nat → ClassId) (dI : Nat → Nat → Nat) (cI cB cO cL : ClassId) (q : Nat → Nat) (m : MS) (hI : gD (fun _ => True) (mAd q)) (hok : kX12_skips m) : Met l yX12_skips wsX12_skips rX12_skips (gP (dC, dI) (tYS cI cB cO cL) (mw q cI m) [.ref (q 0)]) (gQv (dC, dI) (fun m9 => mw q cI m9) (wA (mw q cI m)) (pX12_skips m)) 0 0 (wA (mw q cI m)) := by
  refine gMet (cc := cX12_skips) (maxL := 1) (ret := none) [(0, .ref (q 0))] (by decide) rfl rfl rfl ?_
  intro p e s mi below meth c C0 hK hP ls hl
  obtain ⟨hx, hb, hr, hml, hown, hts, hlocks⟩ := id C0
  have hown : s.vm.findClass RX12 = some mi.cls := hown
  have hS : va_S (wA (mw q cI m)) s.heap s.heap [] := va_S.rf
  have hD : gD (wA (mw q cI m)) (mAd q) := gD_wA (ws := mw q cI m) hI
  have hP : va_P (dC, dI) vwCl (mw q cI m) s.heap := hP
  obtain ⟨F, hF⟩ : ∃ F, F = pX12_skips m := ⟨_, rfl⟩
  have hf := hF
  have hin12 : ∀ w ∈ u_ws RX12 TX12 23, w ∈ wsX12_skips := by decide +kernel
  have fl238 := hts (.fieldLink RX12 238 "ClickBenchModel" "spot" "I") (by decide +kernel)
  have J_0 : ∀ (n_0 : Nat) (m_0 : MS) (H : Heap) (locs : List Loc), va_P (dC, dI) vwCl (mw q cI m_0) H → va_S (wA (mw q cI m)) s.heap H locs → ∀ ls : Array Slot, lv_has ls 1 [(0, .ref (q 0))] → F = pX12_skips_L0 n_0 m_0 → kX12_skips_L0 n_0 m_0 → W p l e rX12_skips s mi ([.ref (q 0)] : List Value).toArray below meth c H locs 0 0 (MQ below (gQv (dC, dI) (fun m9 => mw q cI m9) (wA (mw q cI m)) (pX12_skips m)) ([.ref (q 0)] : List Value).toArray s 0 0 (wA (mw q cI m))) (F0 mi 0 ls []) := by
    intro n_0
    induction n_0 with
    | zero =>
      intro m_0 H locs hP hS ls hl hf hok
      exact absurd hok (fun h => h)
    | succ n_0 ih_0 =>
      intro m_0 H locs hP hS ls hl hf hok
      have hf : F = bX12_skips_L0 (pX12_skips_L0 n_0) m_0 := hf
      have hok : kbX12_skips_L0 (kX12_skips_L0 n_0) m_0 := hok
      refine lv_aload_n hx hb dX12_skips_0 rfl (lv_at hl 0 rfl) ?_
      refine lv_bipush (v := 32) hx hb dX12_skips_1 (by decide) ?_
      refine lv_bipush (v := 32) hx hb dX12_skips_3 (by decide) ?_
      obtain ⟨h1, hok⟩ := hok
      refine gro_i (va_runV (As := [.int 32, .int 32]) (rest := []) ⟨hx, hb, hml, hown, hts⟩ (mX12_isAt l dC dI cI cB cO cL q m_0 32 32  h1) (cwV 2 hts gX12_skips_X12_isAt rfl rfl rfl (by decide +kernel) ⟨Nat.le_of_ble_eq_true rfl, Nat.le_of_ble_eq_true rfl⟩) ⟨gP_blind, va_recv hK hP (ci := 9) (q0 := 0) rfl rfl, gP_ok hP hK⟩ rfl rfl hl.1 rfl (lv_room (Nat.le_of_ble_eq_true rfl)) dX12_skips_5 ⟨Nat.zero_le _, Nat.zero_le _⟩) ?_
      refine lv_if_eq (tgt := 24) hx hb dX12_skips_8 (by decide) (fun c2 => ?_) (fun c2 => ?_)
      · have c2 := bz_f c2
        have hf := ie_eq c2 hf
        exact e_mv C0 (hf.symm.trans hF) hP hS dX12_skips_24
      · have c2 := bz_t c2
        have hf := it_eq c2 hf
        have hok := it_ok c2 hok
        refine lv_aload_n hx hb dX12_skips_11 rfl (lv_at hl 0 rfl) ?_
        refine lv_dup hx hb dX12_skips_12 rfl ?_
        refine va_get (D := (dC, dI)) (ci := 9) (v := .int (m_0.1 7)) (C := RX12) (T := TX12) (N := 23) hx hb hts hin12 hown hK hP 0 rfl rfl 19 (by decide) fl238 (fun _ h9 => h9) rfl dX12_skips_13 ?_
        refine lv_iconst (v := 1) hx hb dX12_skips_16 (by decide) ?_
        refine lv_iadd hx hb dX12_skips_17 ?_
        refine va_put (D := (dC, dI)) (ci := 9) (v := .int ((m_0.1 7) + 1)) (ty := .int) (C := RX12) (T := TX12) (N := 23) hx hb hts hin12 tyX12 tyX12_ok nmX12 hown hK hP (gD_va hD rfl) hS 0 rfl rfl 19 (by decide) fl238 (fun _ h9 => h9) rfl (by decide +kernel) rfl rfl (Nat.le_of_ble_eq_true rfl) dX12_skips_18 (fun H locs hP _ hS => ?_)
        obtain ⟨m_3, em_3⟩ : ∃ z9 : MS, z9 = msi m_0 7 ((m_0.1 7) + 1) := ⟨_, rfl⟩
        have hP : va_P (dC, dI) vwCl (mw q cI m_3) H := by rw [em_3]; exact hP
        have hf := lt_eq em_3 hf
        have hok := lt_ok em_3 hok
        refine lv_goto (tgt := 0) hx hb dX12_skips_21 (by decide) ?_
        exact ih_0 m_3 _ _ hP hS _ (lv_sub hl [0] rfl) hf hok
  exact J_0 fu m _ _ hP hS _ (lv_sub hl [0] rfl) hf hok
noncomputable def pX12_manyOf (a1 : Int64) : Int32 := if a1 = 439854918756 then (2) else (if a1 = 7170403 then (2) else (if a1 = 7562612 then (2) else (if a1 = 2002873452 then (3) else (if a1 = 427020608363 then (3) else (if a1 = 461414299502 then (3) else (if a1 = 126870958204270 then (4) else ((-1000000000))))))))
abbrev rX12_manyOf : Room := { frames := 0, cells := 0, slots := 0, locals := 0 }
set_option maxHeartbeats 4000000 in
set_option maxRecDepth 100000 in
theorem mX12_manyOf (l : Launch) (dC : Nat → ClassId) (dI : Nat → Nat → Nat) (cI cB cO cL : ClassId)  (a1 : Int64) : Met l yX12_manyOf wsX12_manyOf rX12_manyOf (gP (dC, dI) (tYS cI cB cO cL) ([]) [.long a1]) (gRi (pX12_manyOf a1)) 0 0 (fun _ => False) := by
  refine gMet (cc := cX12_manyOf) (maxL := 2) (ret := some .int) [(0, .long a1)] (by decide) rfl rfl rfl ?_
  intro p e s mi below meth c C0 hK hP ls hl
  obtain ⟨hx, hb, hr, hml, hown, hts, hlocks⟩ := id C0
  have hown : s.vm.findClass RX12 = some mi.cls := hown
  obtain ⟨F, hF⟩ : ∃ F, F = pX12_manyOf a1 := ⟨_, rfl⟩
  have hf := hF
  have cn244 := hts (.constantLong RX12 244 (439854918756)) (by decide +kernel)
  have cn246 := hts (.constantLong RX12 246 (7170403)) (by decide +kernel)
  have cn248 := hts (.constantLong RX12 248 (7562612)) (by decide +kernel)
  have cn250 := hts (.constantLong RX12 250 (2002873452)) (by decide +kernel)
  have cn252 := hts (.constantLong RX12 252 (427020608363)) (by decide +kernel)
  have cn254 := hts (.constantLong RX12 254 (461414299502)) (by decide +kernel)
  have cn256 := hts (.constantLong RX12 256 (126870958204270)) (by decide +kernel)
  have cn71 := hts (.constant RX12 71 (-1000000000)) (by decide +kernel)
  refine lv_lload_n hx hb dX12_manyOf_0 rfl (lv_at hl 0 rfl) ?_
  refine lv_ldc2 (v := 439854918756) hx hb hown cn244 dX12_manyOf_1 ?_
  refine W.lcmp hx hb dX12_manyOf_4 ?_
  refine lv_if_eq (tgt := 24) hx hb dX12_manyOf_5 (by decide) (fun c1 => ?_) (fun c1 => ?_)
  · have c1 := (lg_cmp_eq _ _).mp c1
    have hf := it_eq c1 hf
    refine lv_iconst (v := 2) hx hb dX12_manyOf_24 (by decide) ?_
    exact e_ri C0 (hf.symm.trans hF) dX12_manyOf_25
  · have c1 := fun h => c1 ((lg_cmp_eq _ _).mpr h)
    have hf := ie_eq c1 hf
    refine lv_lload_n hx hb dX12_manyOf_8 rfl (lv_at hl 0 rfl) ?_
    refine lv_ldc2 (v := 7170403) hx hb hown cn246 dX12_manyOf_9 ?_
    refine W.lcmp hx hb dX12_manyOf_12 ?_
    refine lv_if_eq (tgt := 24) hx hb dX12_manyOf_13 (by decide) (fun c2 => ?_) (fun c2 => ?_)
    · have c2 := (lg_cmp_eq _ _).mp c2
      have hf := it_eq c2 hf
      refine lv_iconst (v := 2) hx hb dX12_manyOf_24 (by decide) ?_
      exact e_ri C0 (hf.symm.trans hF) dX12_manyOf_25
    · have c2 := fun h => c2 ((lg_cmp_eq _ _).mpr h)
      have hf := ie_eq c2 hf
      refine lv_lload_n hx hb dX12_manyOf_16 rfl (lv_at hl 0 rfl) ?_
      refine lv_ldc2 (v := 7562612) hx hb hown cn248 dX12_manyOf_17 ?_
      refine W.lcmp hx hb dX12_manyOf_20 ?_
      refine lv_if_ne (tgt := 26) hx hb dX12_manyOf_21 (by decide) (fun c3 => ?_) (fun c3 => ?_)
      · have c3 := fun h => c3 ((lg_cmp_eq _ _).mpr h)
        have hf := ie_eq c3 hf
        refine lv_lload_n hx hb dX12_manyOf_26 rfl (lv_at hl 0 rfl) ?_
        refine lv_ldc2 (v := 2002873452) hx hb hown cn250 dX12_manyOf_27 ?_
        refine W.lcmp hx hb dX12_manyOf_30 ?_
        refine lv_if_eq (tgt := 50) hx hb dX12_manyOf_31 (by decide) (fun c4 => ?_) (fun c4 => ?_)
        · have c4 := (lg_cmp_eq _ _).mp c4
          have hf := it_eq c4 hf
          refine lv_iconst (v := 3) hx hb dX12_manyOf_50 (by decide) ?_
          exact e_ri C0 (hf.symm.trans hF) dX12_manyOf_51
        · have c4 := fun h => c4 ((lg_cmp_eq _ _).mpr h)
          have hf := ie_eq c4 hf
          refine lv_lload_n hx hb dX12_manyOf_34 rfl (lv_at hl 0 rfl) ?_
          refine lv_ldc2 (v := 427020608363) hx hb hown cn252 dX12_manyOf_35 ?_
          refine W.lcmp hx hb dX12_manyOf_38 ?_
          refine lv_if_eq (tgt := 50) hx hb dX12_manyOf_39 (by decide) (fun c5 => ?_) (fun c5 => ?_)
          · have c5 := (lg_cmp_eq _ _).mp c5
            have hf := it_eq c5 hf
            refine lv_iconst (v := 3) hx hb dX12_manyOf_50 (by decide) ?_
            exact e_ri C0 (hf.symm.trans hF) dX12_manyOf_51
          · have c5 := fun h => c5 ((lg_cmp_eq _ _).mpr h)
            have hf := ie_eq c5 hf
            refine lv_lload_n hx hb dX12_manyOf_42 rfl (lv_at hl 0 rfl) ?_
            refine lv_ldc2 (v := 461414299502) hx hb hown cn254 dX12_manyOf_43 ?_
            refine W.lcmp hx hb dX12_manyOf_46 ?_
            refine lv_if_ne (tgt := 52) hx hb dX12_manyOf_47 (by decide) (fun c6 => ?_) (fun c6 => ?_)
            · have c6 := fun h => c6 ((lg_cmp_eq _ _).mpr h)
              have hf := ie_eq c6 hf
              refine lv_lload_n hx hb dX12_manyOf_52 rfl (lv_at hl 0 rfl) ?_
              refine lv_ldc2 (v := 126870958204270) hx hb hown cn256 dX12_manyOf_53 ?_
              refine W.lcmp hx hb dX12_manyOf_56 ?_
              refine lv_if_ne (tgt := 64) hx hb dX12_manyOf_57 (by decide) (fun c7 => ?_) (fun c7 => ?_)
              · have c7 := fun h => c7 ((lg_cmp_eq _ _).mpr h)
                have hf := ie_eq c7 hf
                refine lv_ldc (v := (-1000000000)) hx hb hown cn71 dX12_manyOf_64 ?_
                exact e_ri C0 (hf.symm.trans hF) dX12_manyOf_66
              · have c7 := (lg_cmp_eq _ _).mp c7
                have hf := it_eq c7 hf
                refine lv_iconst (v := 4) hx hb dX12_manyOf_60 (by decide) ?_
                refine lv_goto (tgt := 66) hx hb dX12_manyOf_61 (by decide) ?_
                exact e_ri C0 (hf.symm.trans hF) dX12_manyOf_66
            · have c6 := (lg_cmp_eq _ _).mp c6
              have hf := it_eq c6 hf
              refine lv_iconst (v := 3) hx hb dX12_manyOf_50 (by decide) ?_
              exact e_ri C0 (hf.symm.trans hF) dX12_manyOf_51
      · have c3 := (lg_cmp_eq _ _).mp c3
        have hf := it_eq c3 hf
        refine lv_iconst (v := 2) hx hb dX12_manyOf_24 (by decide) ?_
        exact e_ri C0 (hf.symm.trans hF) dX12_manyOf_25
noncomputable def pX12_isWord_L94   (v1_94 : Int32) (m_94 : MS) : Bool × MS := lt (msi m_94 7 v1_94) fun (m_6 : MS) => (false, m_6)
noncomputable def pX12_isWord_L55  (q_10 : Int32 → MS → (Bool × MS)) (v1_55 : Int32) (t1_55 : Int64) (m_55 : MS) : Bool × MS := lt (msj m_55 0 t1_55) fun (m_9 : MS) => lt (msi m_9 7 ((m_9.1 7) + 1)) fun (m_10 : MS) => q_10 v1_55 m_10
def kX12_isWord_L55  (Q_10 : Int32 → MS → Prop) (v1_55 : Int32) (t1_55 : Int64) (m_55 : MS) : Prop := lt (msj m_55 0 t1_55) fun (m_9 : MS) => lt (msi m_9 7 ((m_9.1 7) + 1)) fun (m_10 : MS) => Q_10 v1_55 m_10
noncomputable def bX12_isWord_L10   (q_10 : Int32 → MS → (Bool × MS)) (v1_10 : Int32) (m_10 : MS) : Bool × MS := if (pX12_isAt m_10 97 122) = true then (if 6 ≤ ((m_10.1 7) - v1_10) then (pX12_isWord_L55 q_10 v1_10 0 m_10) else (pX12_isWord_L55 q_10 v1_10 (((m_10.2.1 0) <<< ((8 : Int32).toInt64 &&& 63)) ||| (((m_10.2.2 3) ((m_10.1 7).toNatClampNeg)).toInt64)) m_10)) else (if 6 < ((m_10.1 7) - v1_10) then (pX12_isWord_L94 v1_10 m_10) else (if (pX12_manyOf (m_10.2.1 0)) = (-1000000000) then (pX12_isWord_L94 v1_10 m_10) else ((true, m_10))))
noncomputable def pX12_isWord_L10   : Nat → Int32 → MS → (Bool × MS)
  | 0 => fun _ m_10 => (false, m_10)
  | n + 1 => bX12_isWord_L10   (pX12_isWord_L10   n)
def kbX12_isWord_L10   (Q_10 : Int32 → MS → Prop) (v1_10 : Int32) (m_10 : MS) : Prop := (kX12_isAt m_10 97 122) ∧ (if (pX12_isAt m_10 97 122) = true then (if 6 ≤ ((m_10.1 7) - v1_10) then (kX12_isWord_L55 Q_10 v1_10 0 m_10) else ((vp_in (m_10.1 7) 150) ∧ (kX12_isWord_L55 Q_10 v1_10 (((m_10.2.1 0) <<< ((8 : Int32).toInt64 &&& 63)) ||| (((m_10.2.2 3) ((m_10.1 7).toNatClampNeg)).toInt64)) m_10))) else (True))
noncomputable def kX12_isWord_L10   : Nat → Int32 → MS → Prop
  | 0 => fun _ _ => False
  | n + 1 => kbX12_isWord_L10   (kX12_isWord_L10   n)
noncomputable def pX12_isWord (m : MS) : Bool × MS := lt (m.1 7) fun (x1 : Int32) => lt (msj m 0 0) fun (m_2 : MS) => pX12_isWord_L10 fu x1 m_2
def kX12_isWord (m : MS) : Prop := lt (m.1 7) fun (x1 : Int32) => lt (msj m 0 0) fun (m_2 : MS) => kX12_isWord_L10 fu x1 m_2
abbrev rX12_isWord : Room := { frames := 2, cells := 0, slots := 0, locals := 44 }
set_option maxHeartbeats 4000000 in
set_option maxRecDepth 100000 in
theorem mX12_isWord (l : Launch) (dC : Nat → ClassId) (dI : Nat → Nat → Nat) (cI cB cO cL : ClassId) (q : Nat → Nat) (m : MS) (hI : gD (fun _ => True) (mAd q)) (hok : kX12_isWord m) : Met l yX12_isWord wsX12_isWord rX12_isWord (gP (dC, dI) (tYS cI cB cO cL) (mw q cI m) [.ref (q 0)]) (gQz (dC, dI) (fun m9 => mw q cI m9) (wA (mw q cI m)) (pX12_isWord m)) 0 0 (wA (mw q cI m)) := by
  refine gMet (cc := cX12_isWord) (maxL := 2) (ret := some .boolean) [(0, .ref (q 0))] (by decide) rfl rfl rfl ?_
  intro p e s mi below meth c C0 hK hP ls hl
  obtain ⟨hx, hb, hr, hml, hown, hts, hlocks⟩ := id C0
  have hown : s.vm.findClass RX12 = some mi.cls := hown
  have hS : va_S (wA (mw q cI m)) s.heap s.heap [] := va_S.rf
  have hD : gD (wA (mw q cI m)) (mAd q) := gD_wA (ws := mw q cI m) hI
  have hP : va_P (dC, dI) vwCl (mw q cI m) s.heap := hP
  obtain ⟨F, hF⟩ : ∃ F, F = pX12_isWord m := ⟨_, rfl⟩
  have hf := hF
  have hin12 : ∀ w ∈ u_ws RX12 TX12 23, w ∈ wsX12_isWord := by decide +kernel
  have fl238 := hts (.fieldLink RX12 238 "ClickBenchModel" "spot" "I") (by decide +kernel)
  have fl258 := hts (.fieldLink RX12 258 "ClickBenchModel" "word" "J") (by decide +kernel)
  have cn71 := hts (.constant RX12 71 (-1000000000)) (by decide +kernel)
  have fl19 := hts (.fieldLink RX12 19 "ClickBenchModel" "text" "[I") (by decide +kernel)
  have J_94 : ∀ (v1_94 : Int32) (m_94 : MS) (H : Heap) (locs : List Loc), va_P (dC, dI) vwCl (mw q cI m_94) H → va_S (wA (mw q cI m)) s.heap H locs → ∀ ls : Array Slot, lv_has ls 2 [(0, .ref (q 0)), (1, .int v1_94)] → F = pX12_isWord_L94 v1_94 m_94 → W p l e rX12_isWord s mi ([.ref (q 0)] : List Value).toArray below meth c H locs 0 0 (MQ below (gQz (dC, dI) (fun m9 => mw q cI m9) (wA (mw q cI m)) (pX12_isWord m)) ([.ref (q 0)] : List Value).toArray s 0 0 (wA (mw q cI m))) (F0 mi 94 ls []) := by
    intro v1_94 m_94 H locs hP hS ls hl hf
    refine lv_aload_n hx hb dX12_isWord_94 rfl (lv_at hl 0 rfl) ?_
    refine lv_iload_n hx hb dX12_isWord_95 rfl (lv_at hl 1 rfl) ?_
    refine va_put (D := (dC, dI)) (ci := 9) (v := .int v1_94) (ty := .int) (C := RX12) (T := TX12) (N := 23) hx hb hts hin12 tyX12 tyX12_ok nmX12 hown hK hP (gD_va hD rfl) hS 0 rfl rfl 19 (by decide) fl238 (fun _ h9 => h9) rfl (by decide +kernel) rfl rfl (Nat.le_of_ble_eq_true rfl) dX12_isWord_96 (fun H locs hP _ hS => ?_)
    obtain ⟨m_6, em_6⟩ : ∃ z9 : MS, z9 = msi m_94 7 v1_94 := ⟨_, rfl⟩
    have hP : va_P (dC, dI) vwCl (mw q cI m_6) H := by rw [em_6]; exact hP
    have hf := lt_eq em_6 hf
    refine lv_iconst (v := 0) hx hb dX12_isWord_99 (by decide) ?_
    exact e_mz C0 (b := false) rfl (hf.symm.trans hF) hP hS dX12_isWord_100
  have J_10 : ∀ (n_10 : Nat) (v1_10 : Int32) (m_10 : MS) (H : Heap) (locs : List Loc), va_P (dC, dI) vwCl (mw q cI m_10) H → va_S (wA (mw q cI m)) s.heap H locs → ∀ ls : Array Slot, lv_has ls 2 [(0, .ref (q 0)), (1, .int v1_10)] → F = pX12_isWord_L10 n_10 v1_10 m_10 → kX12_isWord_L10 n_10 v1_10 m_10 → W p l e rX12_isWord s mi ([.ref (q 0)] : List Value).toArray below meth c H locs 0 0 (MQ below (gQz (dC, dI) (fun m9 => mw q cI m9) (wA (mw q cI m)) (pX12_isWord m)) ([.ref (q 0)] : List Value).toArray s 0 0 (wA (mw q cI m))) (F0 mi 10 ls []) := by
    intro n_10
    induction n_10 with
    | zero =>
      intro v1_10 m_10 H locs hP hS ls hl hf hok
      exact absurd hok (fun h => h)
    | succ n_10 ih_10 =>
      have J_55 : ∀ (v1_55 : Int32) (t1_55 : Int64) (m_55 : MS) (H : Heap) (locs : List Loc), va_P (dC, dI) vwCl (mw q cI m_55) H → va_S (wA (mw q cI m)) s.heap H locs → ∀ ls : Array Slot, lv_has ls 2 [(0, .ref (q 0)), (1, .int v1_55)] → F = pX12_isWord_L55 (pX12_isWord_L10 n_10) v1_55 t1_55 m_55 → kX12_isWord_L55 (kX12_isWord_L10 n_10) v1_55 t1_55 m_55 → W p l e rX12_isWord s mi ([.ref (q 0)] : List Value).toArray below meth c H locs 0 0 (MQ below (gQz (dC, dI) (fun m9 => mw q cI m9) (wA (mw q cI m)) (pX12_isWord m)) ([.ref (q 0)] : List Value).toArray s 0 0 (wA (mw q cI m))) (F0 mi 55 ls [.long t1_55, .ref (q 0)]) := by
        intro v1_55 t1_55 m_55 H locs hP hS ls hl hf hok
        refine va_put (D := (dC, dI)) (ci := 9) (v := .long t1_55) (ty := .long) (C := RX12) (T := TX12) (N := 23) hx hb hts hin12 tyX12 tyX12_ok nmX12 hown hK hP (gD_va hD rfl) hS 0 rfl rfl 20 (by decide) fl258 (fun _ h9 => h9) rfl (by decide +kernel) rfl rfl (Nat.le_of_ble_eq_true rfl) dX12_isWord_55 (fun H locs hP _ hS => ?_)
        obtain ⟨m_9, em_9⟩ : ∃ z9 : MS, z9 = msj m_55 0 t1_55 := ⟨_, rfl⟩
        have hP : va_P (dC, dI) vwCl (mw q cI m_9) H := by rw [em_9]; exact hP
        have hf := lt_eq em_9 hf
        have hok := lt_ok em_9 hok
        refine lv_aload_n hx hb dX12_isWord_58 rfl (lv_at hl 0 rfl) ?_
        refine lv_dup hx hb dX12_isWord_59 rfl ?_
        refine va_get (D := (dC, dI)) (ci := 9) (v := .int (m_9.1 7)) (C := RX12) (T := TX12) (N := 23) hx hb hts hin12 hown hK hP 0 rfl rfl 19 (by decide) fl238 (fun _ h9 => h9) rfl dX12_isWord_60 ?_
        refine lv_iconst (v := 1) hx hb dX12_isWord_63 (by decide) ?_
        refine lv_iadd hx hb dX12_isWord_64 ?_
        refine va_put (D := (dC, dI)) (ci := 9) (v := .int ((m_9.1 7) + 1)) (ty := .int) (C := RX12) (T := TX12) (N := 23) hx hb hts hin12 tyX12 tyX12_ok nmX12 hown hK hP (gD_va hD rfl) hS 0 rfl rfl 19 (by decide) fl238 (fun _ h9 => h9) rfl (by decide +kernel) rfl rfl (Nat.le_of_ble_eq_true rfl) dX12_isWord_65 (fun H locs hP _ hS => ?_)
        obtain ⟨m_10, em_10⟩ : ∃ z9 : MS, z9 = msi m_9 7 ((m_9.1 7) + 1) := ⟨_, rfl⟩
        have hP : va_P (dC, dI) vwCl (mw q cI m_10) H := by rw [em_10]; exact hP
        have hf := lt_eq em_10 hf
        have hok := lt_ok em_10 hok
        refine lv_goto (tgt := 10) hx hb dX12_isWord_68 (by decide) ?_
        exact ih_10 v1_55 m_10 _ _ hP hS _ (lv_sub hl [0, 1] rfl) hf hok
      intro v1_10 m_10 H locs hP hS ls hl hf hok
      have hf : F = bX12_isWord_L10 (pX12_isWord_L10 n_10) v1_10 m_10 := hf
      have hok : kbX12_isWord_L10 (kX12_isWord_L10 n_10) v1_10 m_10 := hok
      refine lv_aload_n hx hb dX12_isWord_10 rfl (lv_at hl 0 rfl) ?_
      refine lv_bipush (v := 97) hx hb dX12_isWord_11 (by decide) ?_
      refine lv_bipush (v := 122) hx hb dX12_isWord_13 (by decide) ?_
      obtain ⟨h3, hok⟩ := hok
      refine gro_i (va_runV (As := [.int 97, .int 122]) (rest := []) ⟨hx, hb, hml, hown, hts⟩ (mX12_isAt l dC dI cI cB cO cL q m_10 97 122  h3) (cwV 2 hts gX12_isWord_X12_isAt rfl rfl rfl (by decide +kernel) ⟨Nat.le_of_ble_eq_true rfl, Nat.le_of_ble_eq_true rfl⟩) ⟨gP_blind, va_recv hK hP (ci := 9) (q0 := 0) rfl rfl, gP_ok hP hK⟩ rfl rfl hl.1 rfl (lv_room (Nat.le_of_ble_eq_true rfl)) dX12_isWord_15 ⟨Nat.zero_le _, Nat.zero_le _⟩) ?_
      refine lv_if_eq (tgt := 71) hx hb dX12_isWord_18 (by decide) (fun c4 => ?_) (fun c4 => ?_)
      · have c4 := bz_f c4
        have hf := ie_eq c4 hf
        refine lv_aload_n hx hb dX12_isWord_71 rfl (lv_at hl 0 rfl) ?_
        refine va_get (D := (dC, dI)) (ci := 9) (v := .int (m_10.1 7)) (C := RX12) (T := TX12) (N := 23) hx hb hts hin12 hown hK hP 0 rfl rfl 19 (by decide) fl238 (fun _ h9 => h9) rfl dX12_isWord_72 ?_
        refine lv_iload_n hx hb dX12_isWord_75 rfl (lv_at hl 1 rfl) ?_
        refine lv_isub hx hb dX12_isWord_76 ?_
        refine lv_bipush (v := 6) hx hb dX12_isWord_77 (by decide) ?_
        refine lv_icmp_gt (tgt := 94) hx hb dX12_isWord_79 (by decide) (fun c5 => ?_) (fun c5 => ?_)
        · have hf := it_eq c5 hf
          exact J_94 v1_10 m_10 _ _ hP hS _ (lv_sub hl [0, 1] rfl) hf
        · have hf := ie_eq c5 hf
          refine lv_aload_n hx hb dX12_isWord_82 rfl (lv_at hl 0 rfl) ?_
          refine va_get (D := (dC, dI)) (ci := 9) (v := .long (m_10.2.1 0)) (C := RX12) (T := TX12) (N := 23) hx hb hts hin12 hown hK hP 0 rfl rfl 20 (by decide) fl258 (fun _ h9 => h9) rfl dX12_isWord_83 ?_
          refine gro_i (va_runS (As := [.long (m_10.2.1 0)]) (rest := []) ⟨hx, hb, hml, hown, hts⟩ (mX12_manyOf l dC dI cI cB cO cL  (m_10.2.1 0)  ) (va_cwS 1 hts gX12_isWord_X12_manyOf rfl rfl rfl (by decide +kernel) ⟨Nat.le_of_ble_eq_true rfl, Nat.le_of_ble_eq_true rfl⟩) ⟨gP_blind, gP_ok va_P_nil hK⟩ rfl rfl hl.1 rfl (lv_room (Nat.le_of_ble_eq_true rfl)) dX12_isWord_86 ⟨Nat.zero_le _, Nat.zero_le _⟩) ?_
          refine lv_ldc (v := (-1000000000)) hx hb hown cn71 dX12_isWord_89 ?_
          refine lv_icmp_ne (tgt := 101) hx hb dX12_isWord_91 (by decide) (fun c7 => ?_) (fun c7 => ?_)
          · have hf := ie_eq c7 hf
            refine lv_iconst (v := 1) hx hb dX12_isWord_101 (by decide) ?_
            exact e_mz C0 (b := true) rfl (hf.symm.trans hF) hP hS dX12_isWord_102
          · have hf := it_eq c7 hf
            exact J_94 v1_10 m_10 _ _ hP hS _ (lv_sub hl [0, 1] rfl) hf
      · have c4 := bz_t c4
        have hf := it_eq c4 hf
        have hok := it_ok c4 hok
        refine lv_aload_n hx hb dX12_isWord_21 rfl (lv_at hl 0 rfl) ?_
        refine lv_aload_n hx hb dX12_isWord_22 rfl (lv_at hl 0 rfl) ?_
        refine va_get (D := (dC, dI)) (ci := 9) (v := .int (m_10.1 7)) (C := RX12) (T := TX12) (N := 23) hx hb hts hin12 hown hK hP 0 rfl rfl 19 (by decide) fl238 (fun _ h9 => h9) rfl dX12_isWord_23 ?_
        refine lv_iload_n hx hb dX12_isWord_26 rfl (lv_at hl 1 rfl) ?_
        refine lv_isub hx hb dX12_isWord_27 ?_
        refine lv_bipush (v := 6) hx hb dX12_isWord_28 (by decide) ?_
        refine lv_icmp_ge (tgt := 54) hx hb dX12_isWord_30 (by decide) (fun c8 => ?_) (fun c8 => ?_)
        · have hf := it_eq c8 hf
          have hok := it_ok c8 hok
          refine lv_lconst (v := 0) hx hb dX12_isWord_54 (by decide) ?_
          exact J_55 v1_10 0 m_10 _ _ hP hS _ (lv_sub hl [0, 1] rfl) hf hok
        · have hf := ie_eq c8 hf
          have hok := ie_ok c8 hok
          refine lv_aload_n hx hb dX12_isWord_33 rfl (lv_at hl 0 rfl) ?_
          refine va_get (D := (dC, dI)) (ci := 9) (v := .long (m_10.2.1 0)) (C := RX12) (T := TX12) (N := 23) hx hb hts hin12 hown hK hP 0 rfl rfl 20 (by decide) fl258 (fun _ h9 => h9) rfl dX12_isWord_34 ?_
          refine lv_bipush (v := 8) hx hb dX12_isWord_37 (by decide) ?_
          refine lv_lshl hx hb dX12_isWord_39 rfl ?_
          refine lv_aload_n hx hb dX12_isWord_40 rfl (lv_at hl 0 rfl) ?_
          refine va_get (D := (dC, dI)) (ci := 9) (v := .ref (q 4)) (C := RX12) (T := TX12) (N := 23) hx hb hts hin12 hown hK hP 0 rfl rfl 4 (by decide) fl19 (fun _ h9 => h9) rfl dX12_isWord_41 ?_
          refine lv_aload_n hx hb dX12_isWord_44 rfl (lv_at hl 0 rfl) ?_
          refine va_get (D := (dC, dI)) (ci := 9) (v := .int (m_10.1 7)) (C := RX12) (T := TX12) (N := 23) hx hb hts hin12 hown hK hP 0 rfl rfl 19 (by decide) fl238 (fun _ h9 => h9) rfl dX12_isWord_45 ?_
          obtain ⟨h11, hok⟩ := hok
          refine va_iald (D := (dC, dI)) (tys := (tYS cI cB cO cL)) hx hb hK hP 4 0 rfl rfl h11 dX12_isWord_48 ?_
          refine lv_i2l hx hb dX12_isWord_49 rfl ?_
          refine lv_lor hx hb dX12_isWord_50 ?_
          refine lv_goto (tgt := 55) hx hb dX12_isWord_51 (by decide) ?_
          exact J_55 v1_10 (((m_10.2.1 0) <<< ((8 : Int32).toInt64 &&& 63)) ||| (((m_10.2.2 3) ((m_10.1 7).toNatClampNeg)).toInt64)) m_10 _ _ hP hS _ (lv_sub hl [0, 1] rfl) hf hok
  refine lv_aload_n hx hb dX12_isWord_0 rfl (lv_at hl 0 rfl) ?_
  refine va_get (D := (dC, dI)) (ci := 9) (v := .int (m.1 7)) (C := RX12) (T := TX12) (N := 23) hx hb hts hin12 hown hK hP 0 rfl rfl 19 (by decide) fl238 (fun _ h9 => h9) rfl dX12_isWord_1 ?_
  refine lv_topi (fun x1 ex1 => ?_)
  have hf := lt_eq ex1 hf
  have hok := lt_ok ex1 hok
  refine lv_istore_n (lv' := [(1, .int x1), (0, .ref (q 0))]) hx hb dX12_isWord_4 rfl hl (by decide) rfl (fun ls hl => ?_)
  refine lv_aload_n hx hb dX12_isWord_5 rfl (lv_at hl 1 rfl) ?_
  refine lv_lconst (v := 0) hx hb dX12_isWord_6 (by decide) ?_
  refine va_put (D := (dC, dI)) (ci := 9) (v := .long 0) (ty := .long) (C := RX12) (T := TX12) (N := 23) hx hb hts hin12 tyX12 tyX12_ok nmX12 hown hK hP (gD_va hD rfl) hS 0 rfl rfl 20 (by decide) fl258 (fun _ h9 => h9) rfl (by decide +kernel) rfl rfl (Nat.le_of_ble_eq_true rfl) dX12_isWord_7 (fun H locs hP _ hS => ?_)
  obtain ⟨m_2, em_2⟩ : ∃ z9 : MS, z9 = msj m 0 0 := ⟨_, rfl⟩
  have hP : va_P (dC, dI) vwCl (mw q cI m_2) H := by rw [em_2]; exact hP
  have hf := lt_eq em_2 hf
  have hok := lt_ok em_2 hok
  exact J_10 fu x1 m_2 _ _ hP hS _ (lv_sub hl [1, 0] rfl) hf hok
