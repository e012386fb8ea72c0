abbrev rX11_delay : Room := { frames := 8, cells := 4, slots := 24, locals := 132 }
set_option maxHeartbeats 4000000 in
set_option maxRecDepth 100000 in
theorem mX11_delay (l : Launch) (hfl : l.stackTraces = false) (dC : Nat → ClassId) (dI : Nat → Nat → Nat) (cI cB cO cL : ClassId) (N0 : Nat) (sT eA : Nat → Nat) (qb : Nat → Nat) (qk : Nat → Nat) (qr : Nat → Nat) (qe : Nat → Nat) (qs : Nat → Nat) (qu : Nat → Nat) (qx : Nat → Nat) (qd : Nat → Nat) (b : BS) (kk : Int32) (a1 : Int32) (a2 : Int32) (sz : Nat) (hsz : N0 ≤ sz) (hI : gD (fun _ => True) (bAd qb ++ kAd qk)) (hN9 : ∀ a ∈ (bAd qb ++ kAd qk : List Nat), N0 ≤ a) (hok : kX11_delay b kk a1 a2) : vx_Met l yX11_delay wsX11_delay rX11_delay (zP N0 sz sT eA (dC, dI) (tYS cI cB cO cL) (bw qb cI b ++ kw qk qb qr qe qs qu qx qd cI kk) [.ref (qk 0), .int a1, .int a2]) (yQi (dC, dI) (fun z9 : BS × Int32 => bw qb cI z9.1 ++ kw qk qb qr qe qs qu qx qd cI z9.2) (va_A (bw qb cI b ++ kw qk qb qr qe qs qu qx qd cI kk) sz) (pX11_delay b kk a1 a2)) (yX (dC, dI) (fun z9 : BS × Int32 => bw qb cI z9.1 ++ kw qk qb qr qe qs qu qx qd cI z9.2) (va_A (bw qb cI b ++ kw qk qb qr qe qs qu qx qd cI kk) sz) (pX11_delay b kk a1 a2)) 4 24 (va_A (bw qb cI b ++ kw qk qb qr qe qs qu qx qd cI kk) sz) := by
  refine zMet (cc := cX11_delay) (maxL := 3) (ret := some .int) [(0, .ref (qk 0)), (1, .int a1), (2, .int a2)] (by decide) rfl rfl rfl ?_
  intro p e s mi below meth c C0 htab hz hK hF hP ls hl
  obtain ⟨hx, hb, hr, hml, hown, hts, hlocks⟩ := id C0
  have hown : s.vm.findClass RX11 = some mi.cls := hown
  have hE := hF.1
  subst hz
  have hA0 : ∀ q : Nat, s.heap.size ≤ q → (va_A (bw qb cI b ++ kw qk qb qr qe qs qu qx qd cI kk) s.heap.size) q := fun q h => Or.inr h
  have hN : ∀ q : Nat, (va_A (bw qb cI b ++ kw qk qb qr qe qs qu qx qd cI kk) s.heap.size) q → N0 ≤ q := vA_N (ws := bw qb cI b ++ kw qk qb qr qe qs qu qx qd cI kk) hN9 hsz
  have hH := hF.2.2.narrow hN
  have hS : va_S (va_A (bw qb cI b ++ kw qk qb qr qe qs qu qx qd cI kk) s.heap.size) s.heap s.heap [] := va_S.rf
  have hD : gD (va_A (bw qb cI b ++ kw qk qb qr qe qs qu qx qd cI kk) s.heap.size) (bAd qb ++ kAd qk) := gD_vA (ws := bw qb cI b ++ kw qk qb qr qe qs qu qx qd cI kk) hI
  have hP : va_P (dC, dI) vwCl (bw qb cI b ++ kw qk qb qr qe qs qu qx qd cI kk) s.heap := hP
  obtain ⟨F, hFe⟩ : ∃ F, F = pX11_delay b kk a1 a2 := ⟨_, rfl⟩
  have hf := hFe
  have hin11 : ∀ w ∈ u_ws RX11 TX11 8, w ∈ wsX11_delay := by decide +kernel
  have hin2 : ∀ w ∈ u_ws RX2 TX2 8, w ∈ wsX11_delay := by decide +kernel
  have fl10 := hts (.fieldLink RX11 10 "ClickBench" "bench" "LClickBench$Bench;") (by decide +kernel)
  have fl82 := hts (.fieldLink RX11 82 "ClickBench$Bench" "microphones" "LClickBench$Table;") (by decide +kernel)
  have cn167 := hts (.constant RX11 167 (-1000000000)) (by decide +kernel)
  have J_46 : ∀ (v1_46 : Int32) (v2_46 : Int32) (t0_46 : Bool) (b_46 : BS) (kk_46 : Int32) (H : Heap) (locs : List Loc), va_P (dC, dI) vwCl (bw qb cI b_46 ++ kw qk qb qr qe qs qu qx qd cI kk_46) H → va_S (va_A (bw qb cI b ++ kw qk qb qr qe qs qu qx qd cI kk) s.heap.size) s.heap H locs → ∀ ls : Array Slot, lv_has ls 3 [(0, .ref (qk 0)), (1, .int v1_46), (2, .int v2_46)] → F = pX11_delay_L46 v1_46 v2_46 t0_46 b_46 kk_46 → kX11_delay_L46 v1_46 v2_46 t0_46 b_46 kk_46 → W p l e rX11_delay s mi ([.ref (qk 0), .int a1, .int a2] : List Value).toArray below meth c H locs 1 6 (vx_MQ below (yQi (dC, dI) (fun z9 : BS × Int32 => bw qb cI z9.1 ++ kw qk qb qr qe qs qu qx qd cI z9.2) (va_A (bw qb cI b ++ kw qk qb qr qe qs qu qx qd cI kk) s.heap.size) (pX11_delay b kk a1 a2)) (yX (dC, dI) (fun z9 : BS × Int32 => bw qb cI z9.1 ++ kw qk qb qr qe qs qu qx qd cI z9.2) (va_A (bw qb cI b ++ kw qk qb qr qe qs qu qx qd cI kk) s.heap.size) (pX11_delay b kk a1 a2)) ([.ref (qk 0), .int a1, .int a2] : List Value).toArray s 4 24 (va_A (bw qb cI b ++ kw qk qb qr qe qs qu qx qd cI kk) s.heap.size)) (F0 mi 46 ls [.int (bz t0_46)]) := by
    intro v1_46 v2_46 t0_46 b_46 kk_46 H locs hP hS ls hl hf hok
    refine x_callS (vx_runS (As := [.int (bz t0_46)]) (rest := []) ⟨hx, hb, hml, hown, hts⟩ (mX11_requireRange l hfl dC dI cI cB cO cL N0 sT eA H.size (Nat.le_trans hsz hS.1) t0_46) (va_cwS 1 hts gX11_delay_X11_requireRange rfl rfl rfl (by decide +kernel) ⟨Nat.le_of_ble_eq_true rfl, Nat.le_of_ble_eq_true rfl⟩) ⟨zP_blind, zP_ok va_P_nil hK hF hS hN⟩ rfl rfl hl.1 rfl (lv_room (Nat.le_of_ble_eq_true rfl)) dX11_delay_46 ⟨Nat.le_of_ble_eq_true rfl, Nat.le_of_ble_eq_true rfl⟩) hP hS hA0 (fun hne q9 ce H locs hP hS hce hcv hcl => ?_) (fun h0 H locs hP hS => ?_)
    · exact x_out htab hlocks hne ((xb_1 hne hf).symm.trans hFe) hP hS hce hcv hcl rfl rfl
    · have hf := xb_0 h0 hf
      have hok := xk_0 h0 hok
      refine lv_aload_n hx hb dX11_delay_49 rfl (lv_at hl 0 rfl) ?_
      refine va_get (D := (dC, dI)) (ci := 8) (v := .ref (qb 0)) (C := RX11) (T := TX11) (N := 8) hx hb hts hin11 hown hK hP 9 rfl rfl 0 (by decide) fl10 (fun _ h9 => h9) rfl dX11_delay_50 ?_
      refine lv_iload_n hx hb dX11_delay_53 rfl (lv_at hl 1 rfl) ?_
      obtain ⟨h3, hok⟩ := hok
      have hPc := hP.sub (ws' := bw qb cI b_46) [0, 1, 2, 3, 4, 5, 6, 7, 8] rfl
      refine gro_i (va_runV (As := [.int v1_46]) (rest := []) ⟨hx, hb, hml, hown, hts⟩ (mX2_hasNoted l dC dI cI cB cO cL qb b_46 v1_46  h3) (cwV 1 hts gX11_delay_X2_hasNoted rfl rfl rfl (by decide +kernel) ⟨Nat.le_of_ble_eq_true rfl, Nat.le_of_ble_eq_true rfl⟩) ⟨cP_blind, va_recv hK hPc (ci := 1) (q0 := 0) rfl rfl, cP_ok hPc hK hE⟩ rfl rfl hl.1 rfl (lv_room (Nat.le_of_ble_eq_true rfl)) dX11_delay_54 ⟨Nat.le_of_ble_eq_true rfl, Nat.le_of_ble_eq_true rfl⟩) ?_
      refine lv_if_eq (tgt := 71) hx hb dX11_delay_57 (by decide) (fun c4 => ?_) (fun c4 => ?_)
      · have c4 := bz_f c4
        have hf := ie_eq c4 hf
        refine lv_ldc (v := (-1000000000)) hx hb hown cn167 dX11_delay_71 ?_
        exact e_yi C0 (hf.symm.trans hFe) hP hS rfl rfl dX11_delay_73
      · have c4 := bz_t c4
        have hf := it_eq c4 hf
        have hok := it_ok c4 hok
        refine lv_aload_n hx hb dX11_delay_60 rfl (lv_at hl 0 rfl) ?_
        refine va_get (D := (dC, dI)) (ci := 8) (v := .ref (qb 0)) (C := RX11) (T := TX11) (N := 8) hx hb hts hin11 hown hK hP 9 rfl rfl 0 (by decide) fl10 (fun _ h9 => h9) rfl dX11_delay_61 ?_
        refine lv_iload_n hx hb dX11_delay_64 rfl (lv_at hl 2 rfl) ?_
        obtain ⟨h5, hok⟩ := hok
        have hPc := hP.sub (ws' := bw qb cI b_46) [0, 1, 2, 3, 4, 5, 6, 7, 8] rfl
        refine gro_i (va_runV (As := [.int v2_46]) (rest := []) ⟨hx, hb, hml, hown, hts⟩ (mX2_hasNoted l dC dI cI cB cO cL qb b_46 v2_46  h5) (cwV 1 hts gX11_delay_X2_hasNoted rfl rfl rfl (by decide +kernel) ⟨Nat.le_of_ble_eq_true rfl, Nat.le_of_ble_eq_true rfl⟩) ⟨cP_blind, va_recv hK hPc (ci := 1) (q0 := 0) rfl rfl, cP_ok hPc hK hE⟩ rfl rfl hl.1 rfl (lv_room (Nat.le_of_ble_eq_true rfl)) dX11_delay_65 ⟨Nat.le_of_ble_eq_true rfl, Nat.le_of_ble_eq_true rfl⟩) ?_
        refine lv_if_ne (tgt := 74) hx hb dX11_delay_68 (by decide) (fun c6 => ?_) (fun c6 => ?_)
        · have c6 := bz_t c6
          have hf := it_eq c6 hf
          have hok := it_ok c6 hok
          refine lv_aload_n hx hb dX11_delay_74 rfl (lv_at hl 0 rfl) ?_
          refine va_get (D := (dC, dI)) (ci := 8) (v := .ref (qb 0)) (C := RX11) (T := TX11) (N := 8) hx hb hts hin11 hown hK hP 9 rfl rfl 0 (by decide) fl10 (fun _ h9 => h9) rfl dX11_delay_75 ?_
          refine va_get (D := (dC, dI)) (ci := 1) (v := .ref (qb 1)) (C := RX2) (T := TX2) (N := 8) hx hb hts hin2 hown hK hP 0 rfl rfl 4 (by decide) fl82 (fun _ h9 => h9) rfl dX11_delay_78 ?_
          refine lv_iload_n hx hb dX11_delay_81 rfl (lv_at hl 1 rfl) ?_
          refine lv_iconst (v := 4) hx hb dX11_delay_82 (by decide) ?_
          obtain ⟨h7, hok⟩ := hok
          have hPc := hP.sub (ws' := tw (tad (qb 1) (qb 2)) cI 8 9 72 (b_46.1 4, b_46.2 0)) [1, 2] rfl
          refine gro_i (va_runV (As := [.int v1_46, .int 4]) (rest := []) ⟨hx, hb, hml, hown, hts⟩ (mX9_at l dC dI cI cB cO cL (tad (qb 1) (qb 2)) 8 9 72 (b_46.1 4, b_46.2 0) v1_46 4  h7) (cwV 2 hts gX11_delay_X9_at rfl rfl rfl (by decide +kernel) ⟨Nat.le_of_ble_eq_true rfl, Nat.le_of_ble_eq_true rfl⟩) ⟨cP_blind, va_recv hK hPc (ci := 6) (q0 := 0) rfl rfl, cP_ok hPc hK hE⟩ rfl rfl hl.1 rfl (lv_room (Nat.le_of_ble_eq_true rfl)) dX11_delay_83 ⟨Nat.le_of_ble_eq_true rfl, Nat.le_of_ble_eq_true rfl⟩) ?_
          refine lv_aload_n hx hb dX11_delay_86 rfl (lv_at hl 0 rfl) ?_
          refine va_get (D := (dC, dI)) (ci := 8) (v := .ref (qb 0)) (C := RX11) (T := TX11) (N := 8) hx hb hts hin11 hown hK hP 9 rfl rfl 0 (by decide) fl10 (fun _ h9 => h9) rfl dX11_delay_87 ?_
          refine va_get (D := (dC, dI)) (ci := 1) (v := .ref (qb 1)) (C := RX2) (T := TX2) (N := 8) hx hb hts hin2 hown hK hP 0 rfl rfl 4 (by decide) fl82 (fun _ h9 => h9) rfl dX11_delay_90 ?_
          refine lv_iload_n hx hb dX11_delay_93 rfl (lv_at hl 2 rfl) ?_
          refine lv_iconst (v := 4) hx hb dX11_delay_94 (by decide) ?_
          have h8 : kX9_at 8 9 72 (b_46.1 4, b_46.2 0) v2_46 4 := hok
          have hPc := hP.sub (ws' := tw (tad (qb 1) (qb 2)) cI 8 9 72 (b_46.1 4, b_46.2 0)) [1, 2] rfl
          refine gro_i (va_runV (As := [.int v2_46, .int 4]) (rest := [.int (pX9_at 8 9 72 (b_46.1 4, b_46.2 0) v1_46 4)]) ⟨hx, hb, hml, hown, hts⟩ (mX9_at l dC dI cI cB cO cL (tad (qb 1) (qb 2)) 8 9 72 (b_46.1 4, b_46.2 0) v2_46 4  h8) (cwV 2 hts gX11_delay_X9_at rfl rfl rfl (by decide +kernel) ⟨Nat.le_of_ble_eq_true rfl, Nat.le_of_ble_eq_true rfl⟩) ⟨cP_blind, va_recv hK hPc (ci := 6) (q0 := 0) rfl rfl, cP_ok hPc hK hE⟩ rfl rfl hl.1 rfl (lv_room (Nat.le_of_ble_eq_true rfl)) dX11_delay_95 ⟨Nat.le_of_ble_eq_true rfl, Nat.le_of_ble_eq_true rfl⟩) ?_
          refine lv_isub hx hb dX11_delay_98 ?_
          exact e_yi C0 (hf.symm.trans hFe) hP hS rfl rfl dX11_delay_99
        · have c6 := bz_f c6
          have hf := ie_eq c6 hf
          refine lv_ldc (v := (-1000000000)) hx hb hown cn167 dX11_delay_71 ?_
          exact e_yi C0 (hf.symm.trans hFe) hP hS rfl rfl dX11_delay_73
  have J_33 : ∀ (v1_33 : Int32) (v2_33 : Int32) (t0_33 : Bool) (b_33 : BS) (kk_33 : Int32) (H : Heap) (locs : List Loc), va_P (dC, dI) vwCl (bw qb cI b_33 ++ kw qk qb qr qe qs qu qx qd cI kk_33) H → va_S (va_A (bw qb cI b ++ kw qk qb qr qe qs qu qx qd cI kk) s.heap.size) s.heap H locs → ∀ ls : Array Slot, lv_has ls 3 [(0, .ref (qk 0)), (1, .int v1_33), (2, .int v2_33)] → F = pX11_delay_L33 v1_33 v2_33 t0_33 b_33 kk_33 → kX11_delay_L33 v1_33 v2_33 t0_33 b_33 kk_33 → W p l e rX11_delay s mi ([.ref (qk 0), .int a1, .int a2] : List Value).toArray below meth c H locs 0 0 (vx_MQ below (yQi (dC, dI) (fun z9 : BS × Int32 => bw qb cI z9.1 ++ kw qk qb qr qe qs qu qx qd cI z9.2) (va_A (bw qb cI b ++ kw qk qb qr qe qs qu qx qd cI kk) s.heap.size) (pX11_delay b kk a1 a2)) (yX (dC, dI) (fun z9 : BS × Int32 => bw qb cI z9.1 ++ kw qk qb qr qe qs qu qx qd cI z9.2) (va_A (bw qb cI b ++ kw qk qb qr qe qs qu qx qd cI kk) s.heap.size) (pX11_delay b kk a1 a2)) ([.ref (qk 0), .int a1, .int a2] : List Value).toArray s 4 24 (va_A (bw qb cI b ++ kw qk qb qr qe qs qu qx qd cI kk) s.heap.size)) (F0 mi 33 ls [.int (bz t0_33)]) := by
    intro v1_33 v2_33 t0_33 b_33 kk_33 H locs hP hS ls hl hf hok
    refine x_callS (vx_runS (As := [.int (bz t0_33)]) (rest := []) ⟨hx, hb, hml, hown, hts⟩ (mX11_requireThere l hfl dC dI cI cB cO cL N0 sT eA H.size (Nat.le_trans hsz hS.1) t0_33) (va_cwS 1 hts gX11_delay_X11_requireThere rfl rfl rfl (by decide +kernel) ⟨Nat.le_of_ble_eq_true rfl, Nat.le_of_ble_eq_true rfl⟩) ⟨zP_blind, zP_ok va_P_nil hK hF hS hN⟩ rfl rfl hl.1 rfl (lv_room (Nat.le_of_ble_eq_true rfl)) dX11_delay_33 ⟨Nat.le_of_ble_eq_true rfl, Nat.le_of_ble_eq_true rfl⟩) hP hS hA0 (fun hne q9 ce H locs hP hS hce hcv hcl => ?_) (fun h0 H locs hP hS => ?_)
    · exact x_out htab hlocks hne ((xb_1 hne hf).symm.trans hFe) hP hS hce hcv hcl rfl rfl
    · have hf := xb_0 h0 hf
      have hok := xk_0 h0 hok
      refine lv_iload_n hx hb dX11_delay_36 rfl (lv_at hl 1 rfl) ?_
      refine lv_iload_n hx hb dX11_delay_37 rfl (lv_at hl 2 rfl) ?_
      refine lv_icmp_eq (tgt := 45) hx hb dX11_delay_38 (by decide) (fun c2 => ?_) (fun c2 => ?_)
      · have hf := it_eq c2 hf
        have hok := it_ok c2 hok
        refine lv_iconst (v := 0) hx hb dX11_delay_45 (by decide) ?_
        exact J_46 v1_33 v2_33 false b_33 kk_33 _ _ hP hS _ (lv_sub hl [0, 1, 2] rfl) hf hok
      · have hf := ie_eq c2 hf
        have hok := ie_ok c2 hok
        refine lv_iconst (v := 1) hx hb dX11_delay_41 (by decide) ?_
        refine lv_goto (tgt := 46) hx hb dX11_delay_42 (by decide) ?_
        exact J_46 v1_33 v2_33 true b_33 kk_33 _ _ hP hS _ (lv_sub hl [0, 1, 2] rfl) hf hok
  have J_32 : ∀ (v1_32 : Int32) (v2_32 : Int32) (b_32 : BS) (kk_32 : Int32) (H : Heap) (locs : List Loc), va_P (dC, dI) vwCl (bw qb cI b_32 ++ kw qk qb qr qe qs qu qx qd cI kk_32) H → va_S (va_A (bw qb cI b ++ kw qk qb qr qe qs qu qx qd cI kk) s.heap.size) s.heap H locs → ∀ ls : Array Slot, lv_has ls 3 [(0, .ref (qk 0)), (1, .int v1_32), (2, .int v2_32)] → F = pX11_delay_L32 v1_32 v2_32 b_32 kk_32 → kX11_delay_L32 v1_32 v2_32 b_32 kk_32 → W p l e rX11_delay s mi ([.ref (qk 0), .int a1, .int a2] : List Value).toArray below meth c H locs 0 0 (vx_MQ below (yQi (dC, dI) (fun z9 : BS × Int32 => bw qb cI z9.1 ++ kw qk qb qr qe qs qu qx qd cI z9.2) (va_A (bw qb cI b ++ kw qk qb qr qe qs qu qx qd cI kk) s.heap.size) (pX11_delay b kk a1 a2)) (yX (dC, dI) (fun z9 : BS × Int32 => bw qb cI z9.1 ++ kw qk qb qr qe qs qu qx qd cI z9.2) (va_A (bw qb cI b ++ kw qk qb qr qe qs qu qx qd cI kk) s.heap.size) (pX11_delay b kk a1 a2)) ([.ref (qk 0), .int a1, .int a2] : List Value).toArray s 4 24 (va_A (bw qb cI b ++ kw qk qb qr qe qs qu qx qd cI kk) s.heap.size)) (F0 mi 32 ls []) := by
    intro v1_32 v2_32 b_32 kk_32 H locs hP hS ls hl hf hok
    refine lv_iconst (v := 0) hx hb dX11_delay_32 (by decide) ?_
    exact J_33 v1_32 v2_32 false b_32 kk_32 _ _ hP hS _ (lv_sub hl [0, 1, 2] rfl) hf hok
  refine lv_aload_n hx hb dX11_delay_0 rfl (lv_at hl 0 rfl) ?_
  refine va_get (D := (dC, dI)) (ci := 8) (v := .ref (qb 0)) (C := RX11) (T := TX11) (N := 8) hx hb hts hin11 hown hK hP 9 rfl rfl 0 (by decide) fl10 (fun _ h9 => h9) rfl dX11_delay_1 ?_
  refine va_get (D := (dC, dI)) (ci := 1) (v := .ref (qb 1)) (C := RX2) (T := TX2) (N := 8) hx hb hts hin2 hown hK hP 0 rfl rfl 4 (by decide) fl82 (fun _ h9 => h9) rfl dX11_delay_4 ?_
  refine lv_iload_n hx hb dX11_delay_7 rfl (lv_at hl 1 rfl) ?_
  have hPc := hP.sub (ws' := tw (tad (qb 1) (qb 2)) cI 8 9 72 (b.1 4, b.2 0)) [1, 2] rfl
  refine gro_i (va_runV (As := [.int a1]) (rest := []) ⟨hx, hb, hml, hown, hts⟩ (mX9_has l dC dI cI cB cO cL (tad (qb 1) (qb 2)) 8 9 72 (b.1 4, b.2 0) a1  ) (cwV 1 hts gX11_delay_X9_has rfl rfl rfl (by decide +kernel) ⟨Nat.le_of_ble_eq_true rfl, Nat.le_of_ble_eq_true rfl⟩) ⟨cP_blind, va_recv hK hPc (ci := 6) (q0 := 0) rfl rfl, cP_ok hPc hK hE⟩ rfl rfl hl.1 rfl (lv_room (Nat.le_of_ble_eq_true rfl)) dX11_delay_8 ⟨Nat.le_of_ble_eq_true rfl, Nat.le_of_ble_eq_true rfl⟩) ?_
  refine lv_if_eq (tgt := 32) hx hb dX11_delay_11 (by decide) (fun c1 => ?_) (fun c1 => ?_)
  · have c1 := bz_f c1
    have hf := ie_eq c1 hf
    have hok := ie_ok c1 hok
    exact J_32 a1 a2 b kk _ _ hP hS _ (lv_sub hl [0, 1, 2] rfl) hf hok
  · have c1 := bz_t c1
    have hf := it_eq c1 hf
    have hok := it_ok c1 hok
    refine lv_aload_n hx hb dX11_delay_14 rfl (lv_at hl 0 rfl) ?_
    refine va_get (D := (dC, dI)) (ci := 8) (v := .ref (qb 0)) (C := RX11) (T := TX11) (N := 8) hx hb hts hin11 hown hK hP 9 rfl rfl 0 (by decide) fl10 (fun _ h9 => h9) rfl dX11_delay_15 ?_
    refine va_get (D := (dC, dI)) (ci := 1) (v := .ref (qb 1)) (C := RX2) (T := TX2) (N := 8) hx hb hts hin2 hown hK hP 0 rfl rfl 4 (by decide) fl82 (fun _ h9 => h9) rfl dX11_delay_18 ?_
    refine lv_iload_n hx hb dX11_delay_21 rfl (lv_at hl 2 rfl) ?_
    have hPc := hP.sub (ws' := tw (tad (qb 1) (qb 2)) cI 8 9 72 (b.1 4, b.2 0)) [1, 2] rfl
    refine gro_i (va_runV (As := [.int a2]) (rest := []) ⟨hx, hb, hml, hown, hts⟩ (mX9_has l dC dI cI cB cO cL (tad (qb 1) (qb 2)) 8 9 72 (b.1 4, b.2 0) a2  ) (cwV 1 hts gX11_delay_X9_has rfl rfl rfl (by decide +kernel) ⟨Nat.le_of_ble_eq_true rfl, Nat.le_of_ble_eq_true rfl⟩) ⟨cP_blind, va_recv hK hPc (ci := 6) (q0 := 0) rfl rfl, cP_ok hPc hK hE⟩ rfl rfl hl.1 rfl (lv_room (Nat.le_of_ble_eq_true rfl)) dX11_delay_22 ⟨Nat.le_of_ble_eq_true rfl, Nat.le_of_ble_eq_true rfl⟩) ?_
    refine lv_if_eq (tgt := 32) hx hb dX11_delay_25 (by decide) (fun c9 => ?_) (fun c9 => ?_)
    · have c9 := bz_f c9
      have hf := ie_eq c9 hf
      have hok := ie_ok c9 hok
      exact J_32 a1 a2 b kk _ _ hP hS _ (lv_sub hl [0, 1, 2] rfl) hf hok
    · have c9 := bz_t c9
      have hf := it_eq c9 hf
      have hok := it_ok c9 hok
      refine lv_iconst (v := 1) hx hb dX11_delay_28 (by decide) ?_
      refine lv_goto (tgt := 33) hx hb dX11_delay_29 (by decide) ?_
      exact J_33 a1 a2 true b kk _ _ hP hS _ (lv_sub hl [0, 1, 2] rfl) hf hok
abbrev rX11_expected : Room := { frames := 8, cells := 4, slots := 24, locals := 132 }
abbrev rX11_votes : Room := { frames := 8, cells := 4, slots := 24, locals := 148 }
abbrev rX11_error : Room := { frames := 8, cells := 4, slots := 24, locals := 148 }
abbrev rX11_blame : Room := { frames := 8, cells := 4, slots := 24, locals := 148 }
