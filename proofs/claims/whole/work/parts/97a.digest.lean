abbrev rX11_digest : Room := { frames := 6, cells := 0, slots := 0, locals := 150 }
set_option maxHeartbeats 4000000 in
set_option maxRecDepth 100000 in
theorem mX11_digest (l : Launch) (dC : Nat → ClassId) (dI : Nat → Nat → Nat) (cI cB cO cL : ClassId) (qs : Nat → Nat) (qu : Nat → Nat) (qb : Nat → Nat) (qx : Nat → Nat) (qk : Nat → Nat) (qr : Nat → Nat) (qe : Nat → Nat) (qd : Nat → Nat) (s9 : SS) (u : US) (b : BS) (x : TS) (kk : Int32) (hI : gD (fun _ => True) (sAd qs ++ uAd qu ++ bAd qb ++ xAd qx ++ kAd qk)) (hok : kX11_digest s9 u b x kk) : Met l yX11_digest wsX11_digest rX11_digest (cP (dC, dI) (tYS cI cB cO cL) (sw qs cI s9 ++ uw qu cI cB u ++ bw qb cI b ++ xw qx cI x ++ kw qk qb qr qe qs qu qx qd cI kk) [.ref (qk 0)]) (gQl (dC, dI) (fun z9 : SS × US × BS × TS × Int32 => sw qs cI z9.1 ++ uw qu cI cB z9.2.1 ++ bw qb cI z9.2.2.1 ++ xw qx cI z9.2.2.2.1 ++ kw qk qb qr qe qs qu qx qd cI z9.2.2.2.2) (wA (sw qs cI s9 ++ uw qu cI cB u ++ bw qb cI b ++ xw qx cI x ++ kw qk qb qr qe qs qu qx qd cI kk)) (pX11_digest s9 u b x kk)) 0 0 (wA (sw qs cI s9 ++ uw qu cI cB u ++ bw qb cI b ++ xw qx cI x ++ kw qk qb qr qe qs qu qx qd cI kk)) := by
  refine cMet (cc := cX11_digest) (maxL := 4) (ret := some .long) [(0, .ref (qk 0))] (by decide) rfl rfl rfl ?_
  intro p e s mi below meth c C0 hK hE hP ls hl
  obtain ⟨hx, hb, hr, hml, hown, hts, hlocks⟩ := id C0
  have hown : s.vm.findClass RX11 = some mi.cls := hown
  have hS : va_S (wA (sw qs cI s9 ++ uw qu cI cB u ++ bw qb cI b ++ xw qx cI x ++ kw qk qb qr qe qs qu qx qd cI kk)) s.heap s.heap [] := va_S.rf
  have hD : gD (wA (sw qs cI s9 ++ uw qu cI cB u ++ bw qb cI b ++ xw qx cI x ++ kw qk qb qr qe qs qu qx qd cI kk)) (sAd qs ++ uAd qu ++ bAd qb ++ xAd qx ++ kAd qk) := gD_wA (ws := sw qs cI s9 ++ uw qu cI cB u ++ bw qb cI b ++ xw qx cI x ++ kw qk qb qr qe qs qu qx qd cI kk) hI
  have hP : va_P (dC, dI) vwCl (sw qs cI s9 ++ uw qu cI cB u ++ bw qb cI b ++ xw qx cI x ++ kw qk qb qr qe qs qu qx qd cI kk) s.heap := hP
  obtain ⟨F, hF⟩ : ∃ F, F = pX11_digest s9 u b x kk := ⟨_, rfl⟩
  have hf := hF
  have hin11 : ∀ w ∈ u_ws RX11 TX11 8, w ∈ wsX11_digest := by decide +kernel
  have hin10 : ∀ w ∈ u_ws RX10 TX10 3, w ∈ wsX11_digest := by decide +kernel
  have hin5 : ∀ w ∈ u_ws RX5 TX5 2, w ∈ wsX11_digest := by decide +kernel
  have hin8 : ∀ w ∈ u_ws RX8 TX8 9, w ∈ wsX11_digest := by decide +kernel
  have fl33 := hts (.fieldLink RX11 33 "ClickBench" "survey" "LClickBench$Survey;") (by decide +kernel)
  have fl10 := hts (.fieldLink RX11 10 "ClickBench" "bench" "LClickBench$Bench;") (by decide +kernel)
  have cn253 := hts (.constantLong RX11 253 (18879)) (by decide +kernel)
  have fl40 := hts (.fieldLink RX11 40 "ClickBench" "saved" "LClickBench$UndoStack;") (by decide +kernel)
  have fl243 := hts (.fieldLink RX11 243 "ClickBench$UndoStack" "depth" "I") (by decide +kernel)
  have fl47 := hts (.fieldLink RX11 47 "ClickBench" "text" "LClickBench$CommandText;") (by decide +kernel)
  have fl259 := hts (.fieldLink RX11 259 "ClickBench$CommandText" "length" "I") (by decide +kernel)
  have fl58 := hts (.fieldLink RX11 58 "ClickBench" "latestStop" "I") (by decide +kernel)
  have fl185 := hts (.fieldLink RX11 185 "ClickBench$Survey" "best" "I") (by decide +kernel)
  have J_54 : ∀ (n_54 : Nat) (v1_54 : Int64) (v3_54 : Int32) (s9_54 : SS) (u_54 : US) (b_54 : BS) (x_54 : TS) (kk_54 : Int32) (H : Heap) (locs : List Loc), va_P (dC, dI) vwCl (sw qs cI s9_54 ++ uw qu cI cB u_54 ++ bw qb cI b_54 ++ xw qx cI x_54 ++ kw qk qb qr qe qs qu qx qd cI kk_54) H → va_S (wA (sw qs cI s9 ++ uw qu cI cB u ++ bw qb cI b ++ xw qx cI x ++ kw qk qb qr qe qs qu qx qd cI kk)) s.heap H locs → ∀ ls : Array Slot, lv_has ls 4 [(0, .ref (qk 0)), (1, .long v1_54), (3, .int v3_54)] → F = pX11_digest_L54 n_54 v1_54 v3_54 s9_54 u_54 b_54 x_54 kk_54 → kX11_digest_L54 n_54 v1_54 v3_54 s9_54 u_54 b_54 x_54 kk_54 → W p l e rX11_digest s mi ([.ref (qk 0)] : List Value).toArray below meth c H locs 0 0 (MQ below (gQl (dC, dI) (fun z9 : SS × US × BS × TS × Int32 => sw qs cI z9.1 ++ uw qu cI cB z9.2.1 ++ bw qb cI z9.2.2.1 ++ xw qx cI z9.2.2.2.1 ++ kw qk qb qr qe qs qu qx qd cI z9.2.2.2.2) (wA (sw qs cI s9 ++ uw qu cI cB u ++ bw qb cI b ++ xw qx cI x ++ kw qk qb qr qe qs qu qx qd cI kk)) (pX11_digest s9 u b x kk)) ([.ref (qk 0)] : List Value).toArray s 0 0 (wA (sw qs cI s9 ++ uw qu cI cB u ++ bw qb cI b ++ xw qx cI x ++ kw qk qb qr qe qs qu qx qd cI kk))) (F0 mi 54 ls []) := by
    intro n_54
    induction n_54 with
    | zero =>
      intro v1_54 v3_54 s9_54 u_54 b_54 x_54 kk_54 H locs hP hS ls hl hf hok
      exact absurd hok (fun h => h)
    | succ n_54 ih_54 =>
      intro v1_54 v3_54 s9_54 u_54 b_54 x_54 kk_54 H locs hP hS ls hl hf hok
      have hf : F = bX11_digest_L54 (pX11_digest_L54 n_54) v1_54 v3_54 s9_54 u_54 b_54 x_54 kk_54 := hf
      have hok : kbX11_digest_L54 (kX11_digest_L54 n_54) v1_54 v3_54 s9_54 u_54 b_54 x_54 kk_54 := hok
      refine lv_iload_n hx hb dX11_digest_54 rfl (lv_at hl 2 rfl) ?_
      refine lv_bipush (v := 10) hx hb dX11_digest_55 (by decide) ?_
      refine lv_icmp_gt (tgt := 77) hx hb dX11_digest_57 (by decide) (fun c7 => ?_) (fun c7 => ?_)
      · have hf := it_eq c7 hf
        have hok := it_ok c7 hok
        refine lv_aload_n hx hb dX11_digest_77 rfl (lv_at hl 0 rfl) ?_
        refine lv_lload_n hx hb dX11_digest_78 rfl (lv_at hl 1 rfl) ?_
        obtain ⟨h8, hok⟩ := hok
        have hPc := hP.sub (ws' := sw qs cI s9_54 ++ bw qb cI b_54 ++ kw qk qb qr qe qs qu qx qd cI kk_54) [0, 1, 2, 3, 4, 43, 44, 45, 46, 47, 48, 49, 50, 51, 54] rfl
        refine gmu_l (va_runV (As := [.long v1_54]) (rest := []) ⟨hx, hb, hml, hown, hts⟩ (mX11_mixMicrophones l dC dI cI cB cO cL qs qb qk qr qe qu qx qd s9_54 b_54 kk_54 v1_54 (gD_subT hD [0, 1, 2, 3, 4, 43, 44, 45, 46, 47, 48, 49, 50, 51, 54] rfl rfl) h8) (cwV 1 hts gX11_digest_X11_mixMicrophones rfl rfl rfl (by decide +kernel) ⟨Nat.le_of_ble_eq_true rfl, Nat.le_of_ble_eq_true rfl⟩) ⟨cP_blind, va_recv hK hPc (ci := 8) (q0 := 14) rfl rfl, cP_ok hPc hK hE⟩ rfl rfl hl.1 rfl (lv_room (Nat.le_of_ble_eq_true rfl)) dX11_digest_79 ⟨Nat.zero_le _, Nat.zero_le _⟩) hP (gD_va hD rfl) hS [0, 1, 2, 3, 4, 43, 44, 45, 46, 47, 48, 49, 50, 51, 54] rfl (fun _ => rfl) (fun r9 u10 H locs hw hP hS => ?_)
        have hP : va_P (dC, dI) vwCl (sw qs cI u10.1 ++ uw qu cI cB u_54 ++ bw qb cI u10.2.1 ++ xw qx cI x_54 ++ kw qk qb qr qe qs qu qx qd cI u10.2.2) H := by
          have e09 : gpatch (sw qs cI s9_54 ++ uw qu cI cB u_54 ++ bw qb cI b_54 ++ xw qx cI x_54 ++ kw qk qb qr qe qs qu qx qd cI kk_54) [0, 1, 2, 3, 4] (sw qs cI u10.1) = sw qs cI u10.1 ++ uw qu cI cB u_54 ++ bw qb cI b_54 ++ xw qx cI x_54 ++ kw qk qb qr qe qs qu qx qd cI kk_54 := gpw_0_4 (sw qs cI s9_54) (sw qs cI u10.1) (uw qu cI cB u_54) (bw qb cI b_54) (xw qx cI x_54) (kw qk qb qr qe qs qu qx qd cI kk_54) [0, 1, 2, 3, 4] rfl rfl
          have e19 : gpatch (sw qs cI u10.1 ++ uw qu cI cB u_54 ++ bw qb cI b_54 ++ xw qx cI x_54 ++ kw qk qb qr qe qs qu qx qd cI kk_54) [43, 44, 45, 46, 47, 48, 49, 50, 51] (bw qb cI u10.2.1) = sw qs cI u10.1 ++ uw qu cI cB u_54 ++ bw qb cI u10.2.1 ++ xw qx cI x_54 ++ kw qk qb qr qe qs qu qx qd cI kk_54 := gpw_1_2 (sw qs cI u10.1 ++ uw qu cI cB u_54) (bw qb cI b_54) (bw qb cI u10.2.1) (xw qx cI x_54) (kw qk qb qr qe qs qu qx qd cI kk_54) [43, 44, 45, 46, 47, 48, 49, 50, 51] rfl rfl
          have e29 : gpatch (sw qs cI u10.1 ++ uw qu cI cB u_54 ++ bw qb cI u10.2.1 ++ xw qx cI x_54 ++ kw qk qb qr qe qs qu qx qd cI kk_54) [54] (kw qk qb qr qe qs qu qx qd cI u10.2.2) = sw qs cI u10.1 ++ uw qu cI cB u_54 ++ bw qb cI u10.2.1 ++ xw qx cI x_54 ++ kw qk qb qr qe qs qu qx qd cI u10.2.2 := gpw_1_0 (sw qs cI u10.1 ++ uw qu cI cB u_54 ++ bw qb cI u10.2.1 ++ xw qx cI x_54) (kw qk qb qr qe qs qu qx qd cI kk_54) (kw qk qb qr qe qs qu qx qd cI u10.2.2) [54] rfl rfl
          have ta19 : gpatch (sw qs cI s9_54 ++ uw qu cI cB u_54 ++ bw qb cI b_54 ++ xw qx cI x_54 ++ kw qk qb qr qe qs qu qx qd cI kk_54) [0, 1, 2, 3, 4, 43, 44, 45, 46, 47, 48, 49, 50, 51] (sw qs cI u10.1 ++ bw qb cI u10.2.1) = sw qs cI u10.1 ++ uw qu cI cB u_54 ++ bw qb cI u10.2.1 ++ xw qx cI x_54 ++ kw qk qb qr qe qs qu qx qd cI kk_54 := (gpatch_app [0, 1, 2, 3, 4] [43, 44, 45, 46, 47, 48, 49, 50, 51] (sw qs cI u10.1) (bw qb cI u10.2.1) (sw qs cI s9_54 ++ uw qu cI cB u_54 ++ bw qb cI b_54 ++ xw qx cI x_54 ++ kw qk qb qr qe qs qu qx qd cI kk_54) rfl).trans ((congrArg (fun z9 => gpatch z9 [43, 44, 45, 46, 47, 48, 49, 50, 51] (bw qb cI u10.2.1)) e09).trans e19)
          have ta29 : gpatch (sw qs cI s9_54 ++ uw qu cI cB u_54 ++ bw qb cI b_54 ++ xw qx cI x_54 ++ kw qk qb qr qe qs qu qx qd cI kk_54) [0, 1, 2, 3, 4, 43, 44, 45, 46, 47, 48, 49, 50, 51, 54] (sw qs cI u10.1 ++ bw qb cI u10.2.1 ++ kw qk qb qr qe qs qu qx qd cI u10.2.2) = sw qs cI u10.1 ++ uw qu cI cB u_54 ++ bw qb cI u10.2.1 ++ xw qx cI x_54 ++ kw qk qb qr qe qs qu qx qd cI u10.2.2 := (gpatch_app [0, 1, 2, 3, 4, 43, 44, 45, 46, 47, 48, 49, 50, 51] [54] (sw qs cI u10.1 ++ bw qb cI u10.2.1) (kw qk qb qr qe qs qu qx qd cI u10.2.2) (sw qs cI s9_54 ++ uw qu cI cB u_54 ++ bw qb cI b_54 ++ xw qx cI x_54 ++ kw qk qb qr qe qs qu qx qd cI kk_54) rfl).trans ((congrArg (fun z9 => gpatch z9 [54] (kw qk qb qr qe qs qu qx qd cI u10.2.2)) ta19).trans e29)
          exact (congrArg (fun z9 => va_P (dC, dI) vwCl z9 H) ta29).mp hP
        have hf := bd_eq hw hf
        have hok := bd_ok hw hok
        refine lv_lstore_n (lv' := [(1, .long r9), (0, .ref (qk 0)), (3, .int v3_54)]) hx hb dX11_digest_82 rfl hl (by decide) rfl (fun ls hl => ?_)
        refine lv_aload_n hx hb dX11_digest_83 rfl (lv_at hl 1 rfl) ?_
        refine lv_lload_n hx hb dX11_digest_84 rfl (lv_at hl 0 rfl) ?_
        refine lv_iconst (v := 1) hx hb dX11_digest_85 (by decide) ?_
        obtain ⟨h11, hok⟩ := hok
        have hPc := hP.sub (ws' := bw qb cI u10.2.1 ++ kw qk qb qr qe qs qu qx qd cI u10.2.2) [43, 44, 45, 46, 47, 48, 49, 50, 51, 54] rfl
        refine gro_l (va_runV (As := [.long r9, .int 1]) (rest := []) ⟨hx, hb, hml, hown, hts⟩ (mX11_mixTable l dC dI cI cB cO cL qb qk qr qe qs qu qx qd u10.2.1 u10.2.2 r9 1  h11) (cwV 2 hts gX11_digest_X11_mixTable rfl rfl rfl (by decide +kernel) ⟨Nat.le_of_ble_eq_true rfl, Nat.le_of_ble_eq_true rfl⟩) ⟨cP_blind, va_recv hK hPc (ci := 8) (q0 := 9) rfl rfl, cP_ok hPc hK hE⟩ rfl rfl hl.1 rfl (lv_room (Nat.le_of_ble_eq_true rfl)) dX11_digest_86 ⟨Nat.zero_le _, Nat.zero_le _⟩) ?_
        refine lv_topl (fun x12 ex12 => ?_)
        have hf := lt_eq ex12 hf
        have hok := lt_ok ex12 hok
        refine lv_lstore_n (lv' := [(1, .long x12), (0, .ref (qk 0)), (3, .int v3_54)]) hx hb dX11_digest_89 rfl hl (by decide) rfl (fun ls hl => ?_)
        refine lv_aload_n hx hb dX11_digest_90 rfl (lv_at hl 1 rfl) ?_
        refine lv_lload_n hx hb dX11_digest_91 rfl (lv_at hl 0 rfl) ?_
        refine lv_iconst (v := 2) hx hb dX11_digest_92 (by decide) ?_
        obtain ⟨h13, hok⟩ := hok
        have hPc := hP.sub (ws' := bw qb cI u10.2.1 ++ kw qk qb qr qe qs qu qx qd cI u10.2.2) [43, 44, 45, 46, 47, 48, 49, 50, 51, 54] rfl
        refine gro_l (va_runV (As := [.long x12, .int 2]) (rest := []) ⟨hx, hb, hml, hown, hts⟩ (mX11_mixTable l dC dI cI cB cO cL qb qk qr qe qs qu qx qd u10.2.1 u10.2.2 x12 2  h13) (cwV 2 hts gX11_digest_X11_mixTable rfl rfl rfl (by decide +kernel) ⟨Nat.le_of_ble_eq_true rfl, Nat.le_of_ble_eq_true rfl⟩) ⟨cP_blind, va_recv hK hPc (ci := 8) (q0 := 9) rfl rfl, cP_ok hPc hK hE⟩ rfl rfl hl.1 rfl (lv_room (Nat.le_of_ble_eq_true rfl)) dX11_digest_93 ⟨Nat.zero_le _, Nat.zero_le _⟩) ?_
        refine lv_topl (fun x14 ex14 => ?_)
        have hf := lt_eq ex14 hf
        have hok := lt_ok ex14 hok
        refine lv_lstore_n (lv' := [(1, .long x14), (0, .ref (qk 0)), (3, .int v3_54)]) hx hb dX11_digest_96 rfl hl (by decide) rfl (fun ls hl => ?_)
        refine lv_aload_n hx hb dX11_digest_97 rfl (lv_at hl 1 rfl) ?_
        refine lv_lload_n hx hb dX11_digest_98 rfl (lv_at hl 0 rfl) ?_
        refine lv_iconst (v := 3) hx hb dX11_digest_99 (by decide) ?_
        obtain ⟨h15, hok⟩ := hok
        have hPc := hP.sub (ws' := bw qb cI u10.2.1 ++ kw qk qb qr qe qs qu qx qd cI u10.2.2) [43, 44, 45, 46, 47, 48, 49, 50, 51, 54] rfl
        refine gro_l (va_runV (As := [.long x14, .int 3]) (rest := []) ⟨hx, hb, hml, hown, hts⟩ (mX11_mixTable l dC dI cI cB cO cL qb qk qr qe qs qu qx qd u10.2.1 u10.2.2 x14 3  h15) (cwV 2 hts gX11_digest_X11_mixTable rfl rfl rfl (by decide +kernel) ⟨Nat.le_of_ble_eq_true rfl, Nat.le_of_ble_eq_true rfl⟩) ⟨cP_blind, va_recv hK hPc (ci := 8) (q0 := 9) rfl rfl, cP_ok hPc hK hE⟩ rfl rfl hl.1 rfl (lv_room (Nat.le_of_ble_eq_true rfl)) dX11_digest_100 ⟨Nat.zero_le _, Nat.zero_le _⟩) ?_
        refine lv_topl (fun x16 ex16 => ?_)
        have hf := lt_eq ex16 hf
        have hok := lt_ok ex16 hok
        refine lv_lstore_n (lv' := [(1, .long x16), (0, .ref (qk 0)), (3, .int v3_54)]) hx hb dX11_digest_103 rfl hl (by decide) rfl (fun ls hl => ?_)
        refine lv_lload_n hx hb dX11_digest_104 rfl (lv_at hl 0 rfl) ?_
        refine lv_aload_n hx hb dX11_digest_105 rfl (lv_at hl 1 rfl) ?_
        refine va_get (D := (dC, dI)) (ci := 8) (v := .ref (qs 0)) (C := RX11) (T := TX11) (N := 8) hx hb hts hin11 hown hK hP 54 rfl rfl 3 (by decide) fl33 (fun _ h9 => h9) rfl dX11_digest_106 ?_
        refine va_get (D := (dC, dI)) (ci := 5) (v := .int (u10.1.1 1)) (C := RX8) (T := TX8) (N := 9) hx hb hts hin8 hown hK hP 0 rfl rfl 5 (by decide) fl185 (fun _ h9 => h9) rfl dX11_digest_109 ?_
        refine lv_i2l hx hb dX11_digest_112 rfl ?_
        refine gro_l (va_runS (As := [.long x16, .long ((u10.1.1 1).toInt64)]) (rest := []) ⟨hx, hb, hml, hown, hts⟩ (mX11_mix l dC dI cI cB cO cL  x16 ((u10.1.1 1).toInt64)  ) (va_cwS 2 hts gX11_digest_X11_mix rfl rfl rfl (by decide +kernel) ⟨Nat.le_of_ble_eq_true rfl, Nat.le_of_ble_eq_true rfl⟩) ⟨cP_blind, cP_ok va_P_nil hK hE⟩ rfl rfl hl.1 rfl (lv_room (Nat.le_of_ble_eq_true rfl)) dX11_digest_113 ⟨Nat.zero_le _, Nat.zero_le _⟩) ?_
        refine lv_topl (fun x17 ex17 => ?_)
        have hf := lt_eq ex17 hf
        have hok := lt_ok ex17 hok
        refine lv_lstore_n (lv' := [(1, .long x17), (0, .ref (qk 0)), (3, .int v3_54)]) hx hb dX11_digest_116 rfl hl (by decide) rfl (fun ls hl => ?_)
        refine lv_lload_n hx hb dX11_digest_117 rfl (lv_at hl 0 rfl) ?_
        refine lv_aload_n hx hb dX11_digest_118 rfl (lv_at hl 1 rfl) ?_
        refine va_get (D := (dC, dI)) (ci := 8) (v := .ref (qs 0)) (C := RX11) (T := TX11) (N := 8) hx hb hts hin11 hown hK hP 54 rfl rfl 3 (by decide) fl33 (fun _ h9 => h9) rfl dX11_digest_119 ?_
        refine lv_aload_n hx hb dX11_digest_122 rfl (lv_at hl 1 rfl) ?_
        refine va_get (D := (dC, dI)) (ci := 8) (v := .ref (qb 0)) (C := RX11) (T := TX11) (N := 8) hx hb hts hin11 hown hK hP 54 rfl rfl 0 (by decide) fl10 (fun _ h9 => h9) rfl dX11_digest_123 ?_
        obtain ⟨h18, hok⟩ := hok
        have hPc := hP.sub (ws' := sw qs cI u10.1 ++ bw qb cI u10.2.1) [0, 1, 2, 3, 4, 43, 44, 45, 46, 47, 48, 49, 50, 51] rfl
        refine gmu_i (va_runV (As := [.ref (qb 0)]) (rest := [.long x17]) ⟨hx, hb, hml, hown, hts⟩ (mX8_mostBlamed l dC dI cI cB cO cL qs qb u10.1 u10.2.1 (gD_subT hD [0, 1, 2, 3, 4, 43, 44, 45, 46, 47, 48, 49, 50, 51] rfl rfl) h18) (cwV 1 hts gX11_digest_X8_mostBlamed rfl rfl rfl (by decide +kernel) ⟨Nat.le_of_ble_eq_true rfl, Nat.le_of_ble_eq_true rfl⟩) ⟨cP_blind, va_recv hK hPc (ci := 5) (q0 := 0) rfl rfl, cP_ok hPc hK hE⟩ rfl rfl hl.1 rfl (lv_room (Nat.le_of_ble_eq_true rfl)) dX11_digest_126 ⟨Nat.zero_le _, Nat.zero_le _⟩) hP (gD_va hD rfl) hS [0, 1, 2, 3, 4, 43, 44, 45, 46, 47, 48, 49, 50, 51] rfl (fun _ => rfl) (fun r19 u20 H locs hw hP hS => ?_)
        have hP : va_P (dC, dI) vwCl (sw qs cI u20.1 ++ uw qu cI cB u_54 ++ bw qb cI u20.2 ++ xw qx cI x_54 ++ kw qk qb qr qe qs qu qx qd cI u10.2.2) H := by
          have e09 : gpatch (sw qs cI u10.1 ++ uw qu cI cB u_54 ++ bw qb cI u10.2.1 ++ xw qx cI x_54 ++ kw qk qb qr qe qs qu qx qd cI u10.2.2) [0, 1, 2, 3, 4] (sw qs cI u20.1) = sw qs cI u20.1 ++ uw qu cI cB u_54 ++ bw qb cI u10.2.1 ++ xw qx cI x_54 ++ kw qk qb qr qe qs qu qx qd cI u10.2.2 := gpw_0_4 (sw qs cI u10.1) (sw qs cI u20.1) (uw qu cI cB u_54) (bw qb cI u10.2.1) (xw qx cI x_54) (kw qk qb qr qe qs qu qx qd cI u10.2.2) [0, 1, 2, 3, 4] rfl rfl
          have e19 : gpatch (sw qs cI u20.1 ++ uw qu cI cB u_54 ++ bw qb cI u10.2.1 ++ xw qx cI x_54 ++ kw qk qb qr qe qs qu qx qd cI u10.2.2) [43, 44, 45, 46, 47, 48, 49, 50, 51] (bw qb cI u20.2) = sw qs cI u20.1 ++ uw qu cI cB u_54 ++ bw qb cI u20.2 ++ xw qx cI x_54 ++ kw qk qb qr qe qs qu qx qd cI u10.2.2 := gpw_1_2 (sw qs cI u20.1 ++ uw qu cI cB u_54) (bw qb cI u10.2.1) (bw qb cI u20.2) (xw qx cI x_54) (kw qk qb qr qe qs qu qx qd cI u10.2.2) [43, 44, 45, 46, 47, 48, 49, 50, 51] rfl rfl
          have ea9 : gpatch (sw qs cI u10.1 ++ uw qu cI cB u_54 ++ bw qb cI u10.2.1 ++ xw qx cI x_54 ++ kw qk qb qr qe qs qu qx qd cI u10.2.2) [0, 1, 2, 3, 4, 43, 44, 45, 46, 47, 48, 49, 50, 51] (sw qs cI u20.1 ++ bw qb cI u20.2) = gpatch (gpatch (sw qs cI u10.1 ++ uw qu cI cB u_54 ++ bw qb cI u10.2.1 ++ xw qx cI x_54 ++ kw qk qb qr qe qs qu qx qd cI u10.2.2) [0, 1, 2, 3, 4] (sw qs cI u20.1)) [43, 44, 45, 46, 47, 48, 49, 50, 51] (bw qb cI u20.2) := gpatch_app [0, 1, 2, 3, 4] [43, 44, 45, 46, 47, 48, 49, 50, 51] (sw qs cI u20.1) (bw qb cI u20.2) (sw qs cI u10.1 ++ uw qu cI cB u_54 ++ bw qb cI u10.2.1 ++ xw qx cI x_54 ++ kw qk qb qr qe qs qu qx qd cI u10.2.2) rfl
          exact (congrArg (fun z9 => va_P (dC, dI) vwCl z9 H) (ea9.trans ((congrArg (fun z9 => gpatch z9 [43, 44, 45, 46, 47, 48, 49, 50, 51] (bw qb cI u20.2)) e09).trans e19))).mp hP
        have hf := bd_eq hw hf
        have hok := bd_ok hw hok
        refine lv_i2l hx hb dX11_digest_129 rfl ?_
        refine gro_l (va_runS (As := [.long x17, .long r19.toInt64]) (rest := []) ⟨hx, hb, hml, hown, hts⟩ (mX11_mix l dC dI cI cB cO cL  x17 r19.toInt64  ) (va_cwS 2 hts gX11_digest_X11_mix rfl rfl rfl (by decide +kernel) ⟨Nat.le_of_ble_eq_true rfl, Nat.le_of_ble_eq_true rfl⟩) ⟨cP_blind, cP_ok va_P_nil hK hE⟩ rfl rfl hl.1 rfl (lv_room (Nat.le_of_ble_eq_true rfl)) dX11_digest_130 ⟨Nat.zero_le _, Nat.zero_le _⟩) ?_
        refine lv_topl (fun x21 ex21 => ?_)
        have hf := lt_eq ex21 hf
        have hok := lt_ok ex21 hok
        refine lv_lstore_n (lv' := [(1, .long x21), (0, .ref (qk 0)), (3, .int v3_54)]) hx hb dX11_digest_133 rfl hl (by decide) rfl (fun ls hl => ?_)
        refine lv_aload_n hx hb dX11_digest_134 rfl (lv_at hl 1 rfl) ?_
        refine lv_lload_n hx hb dX11_digest_135 rfl (lv_at hl 0 rfl) ?_
        have h22 : kX11_mixCells u20.1 u20.2 u10.2.2 x21 := hok
        have hPc := hP.sub (ws' := sw qs cI u20.1 ++ bw qb cI u20.2 ++ kw qk qb qr qe qs qu qx qd cI u10.2.2) [0, 1, 2, 3, 4, 43, 44, 45, 46, 47, 48, 49, 50, 51, 54] rfl
        refine gro_l (va_runV (As := [.long x21]) (rest := []) ⟨hx, hb, hml, hown, hts⟩ (mX11_mixCells l dC dI cI cB cO cL qs qb qk qr qe qu qx qd u20.1 u20.2 u10.2.2 x21  h22) (cwV 1 hts gX11_digest_X11_mixCells rfl rfl rfl (by decide +kernel) ⟨Nat.le_of_ble_eq_true rfl, Nat.le_of_ble_eq_true rfl⟩) ⟨cP_blind, va_recv hK hPc (ci := 8) (q0 := 14) rfl rfl, cP_ok hPc hK hE⟩ rfl rfl hl.1 rfl (lv_room (Nat.le_of_ble_eq_true rfl)) dX11_digest_136 ⟨Nat.zero_le _, Nat.zero_le _⟩) ?_
        exact e_ml C0 (hf.symm.trans hF) hP hS dX11_digest_139
      · have hf := ie_eq c7 hf
        have hok := ie_ok c7 hok
        refine lv_lload_n hx hb dX11_digest_60 rfl (lv_at hl 1 rfl) ?_
        refine lv_aload_n hx hb dX11_digest_61 rfl (lv_at hl 0 rfl) ?_
        refine lv_iload_n hx hb dX11_digest_62 rfl (lv_at hl 2 rfl) ?_
        obtain ⟨h23, hok⟩ := hok
        have hPc := hP.sub (ws' := sw qs cI s9_54 ++ bw qb cI b_54 ++ kw qk qb qr qe qs qu qx qd cI kk_54) [0, 1, 2, 3, 4, 43, 44, 45, 46, 47, 48, 49, 50, 51, 54] rfl
        refine gro_i (va_runV (As := [.int v3_54]) (rest := [.long v1_54]) ⟨hx, hb, hml, hown, hts⟩ (mX11_valueOfWhole l dC dI cI cB cO cL qs qb qk qr qe qu qx qd s9_54 b_54 kk_54 v3_54  h23) (cwV 1 hts gX11_digest_X11_valueOfWhole rfl rfl rfl (by decide +kernel) ⟨Nat.le_of_ble_eq_true rfl, Nat.le_of_ble_eq_true rfl⟩) ⟨cP_blind, va_recv hK hPc (ci := 8) (q0 := 14) rfl rfl, cP_ok hPc hK hE⟩ rfl rfl hl.1 rfl (lv_room (Nat.le_of_ble_eq_true rfl)) dX11_digest_63 ⟨Nat.zero_le _, Nat.zero_le _⟩) ?_
        refine lv_i2l hx hb dX11_digest_66 rfl ?_
        refine gro_l (va_runS (As := [.long v1_54, .long ((pX11_valueOfWhole s9_54 b_54 kk_54 v3_54).toInt64)]) (rest := []) ⟨hx, hb, hml, hown, hts⟩ (mX11_mix l dC dI cI cB cO cL  v1_54 ((pX11_valueOfWhole s9_54 b_54 kk_54 v3_54).toInt64)  ) (va_cwS 2 hts gX11_digest_X11_mix rfl rfl rfl (by decide +kernel) ⟨Nat.le_of_ble_eq_true rfl, Nat.le_of_ble_eq_true rfl⟩) ⟨cP_blind, cP_ok va_P_nil hK hE⟩ rfl rfl hl.1 rfl (lv_room (Nat.le_of_ble_eq_true rfl)) dX11_digest_67 ⟨Nat.zero_le _, Nat.zero_le _⟩) ?_
        refine lv_topl (fun x24 ex24 => ?_)
        have hf := lt_eq ex24 hf
        have hok := lt_ok ex24 hok
        refine lv_lstore_n (lv' := [(1, .long x24), (0, .ref (qk 0)), (3, .int v3_54)]) hx hb dX11_digest_70 rfl hl (by decide) rfl (fun ls hl => ?_)
        obtain ⟨x25, ex25⟩ : ∃ y : Int32, y = v3_54 + 1 := ⟨_, rfl⟩
        refine lv_iinc (v := x25) (lv' := [(3, .int x25), (1, .long x24), (0, .ref (qk 0))]) hx hb dX11_digest_71 hl (k := 2) rfl (by rw [ex25]; rfl) (by decide) rfl (fun ls hl => ?_)
        have hf := lt_eq ex25 hf
        have hok := lt_ok ex25 hok
        refine lv_goto (tgt := 54) hx hb dX11_digest_74 (by decide) ?_
        exact ih_54 x24 x25 s9_54 u_54 b_54 x_54 kk_54 _ _ hP hS _ (lv_sub hl [2, 1, 0] rfl) hf hok
  refine lv_aload_n hx hb dX11_digest_0 rfl (lv_at hl 0 rfl) ?_
  refine va_get (D := (dC, dI)) (ci := 8) (v := .ref (qs 0)) (C := RX11) (T := TX11) (N := 8) hx hb hts hin11 hown hK hP 54 rfl rfl 3 (by decide) fl33 (fun _ h9 => h9) rfl dX11_digest_1 ?_
  refine lv_aload_n hx hb dX11_digest_4 rfl (lv_at hl 0 rfl) ?_
  refine va_get (D := (dC, dI)) (ci := 8) (v := .ref (qb 0)) (C := RX11) (T := TX11) (N := 8) hx hb hts hin11 hown hK hP 54 rfl rfl 0 (by decide) fl10 (fun _ h9 => h9) rfl dX11_digest_5 ?_
  refine lv_iconst (v := (-1)) hx hb dX11_digest_8 (by decide) ?_
  obtain ⟨h1, hok⟩ := hok
  have hPc := hP.sub (ws' := sw qs cI s9 ++ bw qb cI b) [0, 1, 2, 3, 4, 43, 44, 45, 46, 47, 48, 49, 50, 51] rfl
  refine gmu_v (va_runV (As := [.ref (qb 0), .int (-1)]) (rest := []) ⟨hx, hb, hml, hown, hts⟩ (mX8_take l dC dI cI cB cO cL qs qb s9 b (-1) (gD_subT hD [0, 1, 2, 3, 4, 43, 44, 45, 46, 47, 48, 49, 50, 51] rfl rfl) h1) (cwV 2 hts gX11_digest_X8_take rfl rfl rfl (by decide +kernel) ⟨Nat.le_of_ble_eq_true rfl, Nat.le_of_ble_eq_true rfl⟩) ⟨cP_blind, va_recv hK hPc (ci := 5) (q0 := 0) rfl rfl, cP_ok hPc hK hE⟩ rfl rfl hl.1 rfl (lv_room (Nat.le_of_ble_eq_true rfl)) dX11_digest_9 ⟨Nat.zero_le _, Nat.zero_le _⟩) hP (gD_va hD rfl) hS [0, 1, 2, 3, 4, 43, 44, 45, 46, 47, 48, 49, 50, 51] rfl (fun _ => rfl) (fun u3 H locs hw hP hS => ?_)
  have hP : va_P (dC, dI) vwCl (sw qs cI u3.1 ++ uw qu cI cB u ++ bw qb cI u3.2 ++ xw qx cI x ++ kw qk qb qr qe qs qu qx qd cI kk) H := by
    have e09 : gpatch (sw qs cI s9 ++ uw qu cI cB u ++ bw qb cI b ++ xw qx cI x ++ kw qk qb qr qe qs qu qx qd cI kk) [0, 1, 2, 3, 4] (sw qs cI u3.1) = sw qs cI u3.1 ++ uw qu cI cB u ++ bw qb cI b ++ xw qx cI x ++ kw qk qb qr qe qs qu qx qd cI kk := gpw_0_4 (sw qs cI s9) (sw qs cI u3.1) (uw qu cI cB u) (bw qb cI b) (xw qx cI x) (kw qk qb qr qe qs qu qx qd cI kk) [0, 1, 2, 3, 4] rfl rfl
    have e19 : gpatch (sw qs cI u3.1 ++ uw qu cI cB u ++ bw qb cI b ++ xw qx cI x ++ kw qk qb qr qe qs qu qx qd cI kk) [43, 44, 45, 46, 47, 48, 49, 50, 51] (bw qb cI u3.2) = sw qs cI u3.1 ++ uw qu cI cB u ++ bw qb cI u3.2 ++ xw qx cI x ++ kw qk qb qr qe qs qu qx qd cI kk := gpw_1_2 (sw qs cI u3.1 ++ uw qu cI cB u) (bw qb cI b) (bw qb cI u3.2) (xw qx cI x) (kw qk qb qr qe qs qu qx qd cI kk) [43, 44, 45, 46, 47, 48, 49, 50, 51] rfl rfl
    have ea9 : gpatch (sw qs cI s9 ++ uw qu cI cB u ++ bw qb cI b ++ xw qx cI x ++ kw qk qb qr qe qs qu qx qd cI kk) [0, 1, 2, 3, 4, 43, 44, 45, 46, 47, 48, 49, 50, 51] (sw qs cI u3.1 ++ bw qb cI u3.2) = gpatch (gpatch (sw qs cI s9 ++ uw qu cI cB u ++ bw qb cI b ++ xw qx cI x ++ kw qk qb qr qe qs qu qx qd cI kk) [0, 1, 2, 3, 4] (sw qs cI u3.1)) [43, 44, 45, 46, 47, 48, 49, 50, 51] (bw qb cI u3.2) := gpatch_app [0, 1, 2, 3, 4] [43, 44, 45, 46, 47, 48, 49, 50, 51] (sw qs cI u3.1) (bw qb cI u3.2) (sw qs cI s9 ++ uw qu cI cB u ++ bw qb cI b ++ xw qx cI x ++ kw qk qb qr qe qs qu qx qd cI kk) rfl
    exact (congrArg (fun z9 => va_P (dC, dI) vwCl z9 H) (ea9.trans ((congrArg (fun z9 => gpatch z9 [43, 44, 45, 46, 47, 48, 49, 50, 51] (bw qb cI u3.2)) e09).trans e19))).mp hP
  have hf := lt_eq hw hf
  have hok := lt_ok hw hok
  refine lv_ldc2 (v := 18879) hx hb hown cn253 dX11_digest_12 ?_
  refine lv_lstore_n (lv' := [(1, .long 18879), (0, .ref (qk 0))]) hx hb dX11_digest_15 rfl hl (by decide) rfl (fun ls hl => ?_)
  refine lv_lload_n hx hb dX11_digest_16 rfl (lv_at hl 0 rfl) ?_
  refine lv_aload_n hx hb dX11_digest_17 rfl (lv_at hl 1 rfl) ?_
  refine va_get (D := (dC, dI)) (ci := 8) (v := .ref (qu 0)) (C := RX11) (T := TX11) (N := 8) hx hb hts hin11 hown hK hP 54 rfl rfl 4 (by decide) fl40 (fun _ h9 => h9) rfl dX11_digest_18 ?_
  refine va_get (D := (dC, dI)) (ci := 7) (v := .int (u.1 1)) (C := RX10) (T := TX10) (N := 3) hx hb hts hin10 hown hK hP 5 rfl rfl 2 (by decide) fl243 (fun _ h9 => h9) rfl dX11_digest_21 ?_
  refine lv_i2l hx hb dX11_digest_24 rfl ?_
  refine gro_l (va_runS (As := [.long 18879, .long ((u.1 1).toInt64)]) (rest := []) ⟨hx, hb, hml, hown, hts⟩ (mX11_mix l dC dI cI cB cO cL  18879 ((u.1 1).toInt64)  ) (va_cwS 2 hts gX11_digest_X11_mix rfl rfl rfl (by decide +kernel) ⟨Nat.le_of_ble_eq_true rfl, Nat.le_of_ble_eq_true rfl⟩) ⟨cP_blind, cP_ok va_P_nil hK hE⟩ rfl rfl hl.1 rfl (lv_room (Nat.le_of_ble_eq_true rfl)) dX11_digest_25 ⟨Nat.zero_le _, Nat.zero_le _⟩) ?_
  refine lv_topl (fun x4 ex4 => ?_)
  have hf := lt_eq ex4 hf
  have hok := lt_ok ex4 hok
  refine lv_lstore_n (lv' := [(1, .long x4), (0, .ref (qk 0))]) hx hb dX11_digest_28 rfl hl (by decide) rfl (fun ls hl => ?_)
  refine lv_lload_n hx hb dX11_digest_29 rfl (lv_at hl 0 rfl) ?_
  refine lv_aload_n hx hb dX11_digest_30 rfl (lv_at hl 1 rfl) ?_
  refine va_get (D := (dC, dI)) (ci := 8) (v := .ref (qx 0)) (C := RX11) (T := TX11) (N := 8) hx hb hts hin11 hown hK hP 54 rfl rfl 5 (by decide) fl47 (fun _ h9 => h9) rfl dX11_digest_31 ?_
  refine va_get (D := (dC, dI)) (ci := 3) (v := .int x.1) (C := RX5) (T := TX5) (N := 2) hx hb hts hin5 hown hK hP 52 rfl rfl 1 (by decide) fl259 (fun _ h9 => h9) rfl dX11_digest_34 ?_
  refine lv_i2l hx hb dX11_digest_37 rfl ?_
  refine gro_l (va_runS (As := [.long x4, .long x.1.toInt64]) (rest := []) ⟨hx, hb, hml, hown, hts⟩ (mX11_mix l dC dI cI cB cO cL  x4 x.1.toInt64  ) (va_cwS 2 hts gX11_digest_X11_mix rfl rfl rfl (by decide +kernel) ⟨Nat.le_of_ble_eq_true rfl, Nat.le_of_ble_eq_true rfl⟩) ⟨cP_blind, cP_ok va_P_nil hK hE⟩ rfl rfl hl.1 rfl (lv_room (Nat.le_of_ble_eq_true rfl)) dX11_digest_38 ⟨Nat.zero_le _, Nat.zero_le _⟩) ?_
  refine lv_topl (fun x5 ex5 => ?_)
  have hf := lt_eq ex5 hf
  have hok := lt_ok ex5 hok
  refine lv_lstore_n (lv' := [(1, .long x5), (0, .ref (qk 0))]) hx hb dX11_digest_41 rfl hl (by decide) rfl (fun ls hl => ?_)
  refine lv_lload_n hx hb dX11_digest_42 rfl (lv_at hl 0 rfl) ?_
  refine lv_aload_n hx hb dX11_digest_43 rfl (lv_at hl 1 rfl) ?_
  refine va_get (D := (dC, dI)) (ci := 8) (v := .int kk) (C := RX11) (T := TX11) (N := 8) hx hb hts hin11 hown hK hP 54 rfl rfl 7 (by decide) fl58 (fun _ h9 => h9) rfl dX11_digest_44 ?_
  refine lv_i2l hx hb dX11_digest_47 rfl ?_
  refine gro_l (va_runS (As := [.long x5, .long kk.toInt64]) (rest := []) ⟨hx, hb, hml, hown, hts⟩ (mX11_mix l dC dI cI cB cO cL  x5 kk.toInt64  ) (va_cwS 2 hts gX11_digest_X11_mix rfl rfl rfl (by decide +kernel) ⟨Nat.le_of_ble_eq_true rfl, Nat.le_of_ble_eq_true rfl⟩) ⟨cP_blind, cP_ok va_P_nil hK hE⟩ rfl rfl hl.1 rfl (lv_room (Nat.le_of_ble_eq_true rfl)) dX11_digest_48 ⟨Nat.zero_le _, Nat.zero_le _⟩) ?_
  refine lv_topl (fun x6 ex6 => ?_)
  have hf := lt_eq ex6 hf
  have hok := lt_ok ex6 hok
  refine lv_lstore_n (lv' := [(1, .long x6), (0, .ref (qk 0))]) hx hb dX11_digest_51 rfl hl (by decide) rfl (fun ls hl => ?_)
  refine lv_iconst (v := 0) hx hb dX11_digest_52 (by decide) ?_
  refine lv_istore_n (lv' := [(3, .int 0), (1, .long x6), (0, .ref (qk 0))]) hx hb dX11_digest_53 rfl hl (by decide) rfl (fun ls hl => ?_)
  exact J_54 fu x6 0 u3.1 u u3.2 x kk _ _ hP hS _ (lv_sub hl [2, 1, 0] rfl) hf hok
