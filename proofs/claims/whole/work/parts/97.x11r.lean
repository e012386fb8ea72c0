abbrev rX11_valueOfWhole : Room := { frames := 2, cells := 0, slots := 0, locals := 43 }
set_option maxHeartbeats 4000000 in
set_option maxRecDepth 100000 in
theorem mX11_valueOfWhole (l : Launch) (dC : Nat → ClassId) (dI : Nat → Nat → Nat) (cI cB cO cL : ClassId) (qs : Nat → Nat) (qb : Nat → Nat) (qk : Nat → Nat) (qr : Nat → Nat) (qe : Nat → Nat) (qu : Nat → Nat) (qx : Nat → Nat) (qd : Nat → Nat) (s9 : SS) (b : BS) (kk : Int32) (a1 : Int32) (hok : kX11_valueOfWhole s9 b kk a1) : Met l yX11_valueOfWhole wsX11_valueOfWhole rX11_valueOfWhole (cP (dC, dI) (tYS cI cB cO cL) (sw qs cI s9 ++ bw qb cI b ++ kw qk qb qr qe qs qu qx qd cI kk) [.ref (qk 0), .int a1]) (gRi (pX11_valueOfWhole s9 b kk a1)) 0 0 (fun _ => False) := by
  refine cMet (cc := cX11_valueOfWhole) (maxL := 2) (ret := some .int) [(0, .ref (qk 0)), (1, .int a1)] (by decide) rfl rfl rfl ?_
  intro p e s mi below meth c C0 hK hE hP ls hl
  obtain ⟨hx, hb, hr, hml, hown, hts, hlocks⟩ := id C0
  have hown : s.vm.findClass RX11 = some mi.cls := hown
  obtain ⟨F, hF⟩ : ∃ F, F = pX11_valueOfWhole s9 b kk a1 := ⟨_, rfl⟩
  have hf := hF
  have hin11 : ∀ w ∈ u_ws RX11 TX11 8, w ∈ wsX11_valueOfWhole := by decide +kernel
  have hin2 : ∀ w ∈ u_ws RX2 TX2 8, w ∈ wsX11_valueOfWhole := by decide +kernel
  have hin9 : ∀ w ∈ u_ws RX9 TX9 4, w ∈ wsX11_valueOfWhole := by decide +kernel
  have hin8 : ∀ w ∈ u_ws RX8 TX8 9, w ∈ wsX11_valueOfWhole := by decide +kernel
  have fl10 := hts (.fieldLink RX11 10 "ClickBench" "bench" "LClickBench$Bench;") (by decide +kernel)
  have fl303 := hts (.fieldLink RX11 303 "ClickBench$Bench" "columns" "I") (by decide +kernel)
  have fl306 := hts (.fieldLink RX11 306 "ClickBench$Bench" "rows" "I") (by decide +kernel)
  have fl82 := hts (.fieldLink RX11 82 "ClickBench$Bench" "microphones" "LClickBench$Table;") (by decide +kernel)
  have fl131 := hts (.fieldLink RX11 131 "ClickBench$Table" "count" "I") (by decide +kernel)
  have fl309 := hts (.fieldLink RX11 309 "ClickBench$Bench" "walls" "LClickBench$Table;") (by decide +kernel)
  have fl312 := hts (.fieldLink RX11 312 "ClickBench$Bench" "screens" "LClickBench$Table;") (by decide +kernel)
  have fl315 := hts (.fieldLink RX11 315 "ClickBench$Bench" "clicks" "I") (by decide +kernel)
  have fl33 := hts (.fieldLink RX11 33 "ClickBench" "survey" "LClickBench$Survey;") (by decide +kernel)
  have fl318 := hts (.fieldLink RX11 318 "ClickBench$Survey" "hearerCount" "I") (by decide +kernel)
  have fl185 := hts (.fieldLink RX11 185 "ClickBench$Survey" "best" "I") (by decide +kernel)
  have fl188 := hts (.fieldLink RX11 188 "ClickBench$Survey" "tiedCells" "I") (by decide +kernel)
  have fl140 := hts (.fieldLink RX11 140 "ClickBench$Bench" "s" "I") (by decide +kernel)
  refine lv_iload_n hx hb dX11_valueOfWhole_0 rfl (lv_at hl 1 rfl) ?_
  by_cases c1 : a1 = 0
  · have hf := it_eq c1 hf
    refine lv_tableIn (tgt := 56) (off := 55) hx hb dX11_valueOfWhole_1 (by rw [c1]; decide) (by rw [c1]; decide) (by rw [c1]; rfl) (by decide) ?_
    refine lv_aload_n hx hb dX11_valueOfWhole_56 rfl (lv_at hl 0 rfl) ?_
    refine va_get (D := (dC, dI)) (ci := 8) (v := .ref (qb 0)) (C := RX11) (T := TX11) (N := 8) hx hb hts hin11 hown hK hP 14 rfl rfl 0 (by decide) fl10 (fun _ h9 => h9) rfl dX11_valueOfWhole_57 ?_
    refine va_get (D := (dC, dI)) (ci := 1) (v := .int (b.1 0)) (C := RX2) (T := TX2) (N := 8) hx hb hts hin2 hown hK hP 5 rfl rfl 0 (by decide) fl303 (fun _ h9 => h9) rfl dX11_valueOfWhole_60 ?_
    exact e_ri C0 (hf.symm.trans hF) dX11_valueOfWhole_63
  · have hf := ie_eq c1 hf
    have hok := ie_ok c1 hok
    by_cases c2 : a1 = 1
    · have hf := it_eq c2 hf
      refine lv_tableIn (tgt := 64) (off := 63) hx hb dX11_valueOfWhole_1 (by rw [c2]; decide) (by rw [c2]; decide) (by rw [c2]; rfl) (by decide) ?_
      refine lv_aload_n hx hb dX11_valueOfWhole_64 rfl (lv_at hl 0 rfl) ?_
      refine va_get (D := (dC, dI)) (ci := 8) (v := .ref (qb 0)) (C := RX11) (T := TX11) (N := 8) hx hb hts hin11 hown hK hP 14 rfl rfl 0 (by decide) fl10 (fun _ h9 => h9) rfl dX11_valueOfWhole_65 ?_
      refine va_get (D := (dC, dI)) (ci := 1) (v := .int (b.1 1)) (C := RX2) (T := TX2) (N := 8) hx hb hts hin2 hown hK hP 5 rfl rfl 1 (by decide) fl306 (fun _ h9 => h9) rfl dX11_valueOfWhole_68 ?_
      exact e_ri C0 (hf.symm.trans hF) dX11_valueOfWhole_71
    · have hf := ie_eq c2 hf
      have hok := ie_ok c2 hok
      by_cases c3 : a1 = 2
      · have hf := it_eq c3 hf
        refine lv_tableIn (tgt := 72) (off := 71) hx hb dX11_valueOfWhole_1 (by rw [c3]; decide) (by rw [c3]; decide) (by rw [c3]; rfl) (by decide) ?_
        refine lv_aload_n hx hb dX11_valueOfWhole_72 rfl (lv_at hl 0 rfl) ?_
        refine va_get (D := (dC, dI)) (ci := 8) (v := .ref (qb 0)) (C := RX11) (T := TX11) (N := 8) hx hb hts hin11 hown hK hP 14 rfl rfl 0 (by decide) fl10 (fun _ h9 => h9) rfl dX11_valueOfWhole_73 ?_
        refine va_get (D := (dC, dI)) (ci := 1) (v := .ref (qb 1)) (C := RX2) (T := TX2) (N := 8) hx hb hts hin2 hown hK hP 5 rfl rfl 4 (by decide) fl82 (fun _ h9 => h9) rfl dX11_valueOfWhole_76 ?_
        refine va_get (D := (dC, dI)) (ci := 6) (v := .int (b.1 4)) (C := RX9) (T := TX9) (N := 4) hx hb hts hin9 hown hK hP 6 rfl rfl 3 (by decide) fl131 (fun _ h9 => h9) rfl dX11_valueOfWhole_79 ?_
        exact e_ri C0 (hf.symm.trans hF) dX11_valueOfWhole_82
      · have hf := ie_eq c3 hf
        have hok := ie_ok c3 hok
        by_cases c4 : a1 = 3
        · have hf := it_eq c4 hf
          refine lv_tableIn (tgt := 83) (off := 82) hx hb dX11_valueOfWhole_1 (by rw [c4]; decide) (by rw [c4]; decide) (by rw [c4]; rfl) (by decide) ?_
          refine lv_aload_n hx hb dX11_valueOfWhole_83 rfl (lv_at hl 0 rfl) ?_
          refine va_get (D := (dC, dI)) (ci := 8) (v := .ref (qb 0)) (C := RX11) (T := TX11) (N := 8) hx hb hts hin11 hown hK hP 14 rfl rfl 0 (by decide) fl10 (fun _ h9 => h9) rfl dX11_valueOfWhole_84 ?_
          refine va_get (D := (dC, dI)) (ci := 1) (v := .ref (qb 3)) (C := RX2) (T := TX2) (N := 8) hx hb hts hin2 hown hK hP 5 rfl rfl 5 (by decide) fl309 (fun _ h9 => h9) rfl dX11_valueOfWhole_87 ?_
          refine va_get (D := (dC, dI)) (ci := 6) (v := .int (b.1 5)) (C := RX9) (T := TX9) (N := 4) hx hb hts hin9 hown hK hP 8 rfl rfl 3 (by decide) fl131 (fun _ h9 => h9) rfl dX11_valueOfWhole_90 ?_
          exact e_ri C0 (hf.symm.trans hF) dX11_valueOfWhole_93
        · have hf := ie_eq c4 hf
          have hok := ie_ok c4 hok
          by_cases c5 : a1 = 4
          · have hf := it_eq c5 hf
            refine lv_tableIn (tgt := 94) (off := 93) hx hb dX11_valueOfWhole_1 (by rw [c5]; decide) (by rw [c5]; decide) (by rw [c5]; rfl) (by decide) ?_
            refine lv_aload_n hx hb dX11_valueOfWhole_94 rfl (lv_at hl 0 rfl) ?_
            refine va_get (D := (dC, dI)) (ci := 8) (v := .ref (qb 0)) (C := RX11) (T := TX11) (N := 8) hx hb hts hin11 hown hK hP 14 rfl rfl 0 (by decide) fl10 (fun _ h9 => h9) rfl dX11_valueOfWhole_95 ?_
            refine va_get (D := (dC, dI)) (ci := 1) (v := .ref (qb 5)) (C := RX2) (T := TX2) (N := 8) hx hb hts hin2 hown hK hP 5 rfl rfl 6 (by decide) fl312 (fun _ h9 => h9) rfl dX11_valueOfWhole_98 ?_
            refine va_get (D := (dC, dI)) (ci := 6) (v := .int (b.1 6)) (C := RX9) (T := TX9) (N := 4) hx hb hts hin9 hown hK hP 10 rfl rfl 3 (by decide) fl131 (fun _ h9 => h9) rfl dX11_valueOfWhole_101 ?_
            exact e_ri C0 (hf.symm.trans hF) dX11_valueOfWhole_104
          · have hf := ie_eq c5 hf
            have hok := ie_ok c5 hok
            by_cases c6 : a1 = 5
            · have hf := it_eq c6 hf
              refine lv_tableIn (tgt := 105) (off := 104) hx hb dX11_valueOfWhole_1 (by rw [c6]; decide) (by rw [c6]; decide) (by rw [c6]; rfl) (by decide) ?_
              refine lv_aload_n hx hb dX11_valueOfWhole_105 rfl (lv_at hl 0 rfl) ?_
              refine va_get (D := (dC, dI)) (ci := 8) (v := .ref (qb 0)) (C := RX11) (T := TX11) (N := 8) hx hb hts hin11 hown hK hP 14 rfl rfl 0 (by decide) fl10 (fun _ h9 => h9) rfl dX11_valueOfWhole_106 ?_
              refine va_get (D := (dC, dI)) (ci := 1) (v := .int (b.1 2)) (C := RX2) (T := TX2) (N := 8) hx hb hts hin2 hown hK hP 5 rfl rfl 2 (by decide) fl315 (fun _ h9 => h9) rfl dX11_valueOfWhole_109 ?_
              exact e_ri C0 (hf.symm.trans hF) dX11_valueOfWhole_112
            · have hf := ie_eq c6 hf
              have hok := ie_ok c6 hok
              by_cases c7 : a1 = 6
              · have hf := it_eq c7 hf
                refine lv_tableIn (tgt := 113) (off := 112) hx hb dX11_valueOfWhole_1 (by rw [c7]; decide) (by rw [c7]; decide) (by rw [c7]; rfl) (by decide) ?_
                refine lv_aload_n hx hb dX11_valueOfWhole_113 rfl (lv_at hl 0 rfl) ?_
                refine va_get (D := (dC, dI)) (ci := 8) (v := .ref (qs 0)) (C := RX11) (T := TX11) (N := 8) hx hb hts hin11 hown hK hP 14 rfl rfl 3 (by decide) fl33 (fun _ h9 => h9) rfl dX11_valueOfWhole_114 ?_
                refine va_get (D := (dC, dI)) (ci := 5) (v := .int (s9.1 0)) (C := RX8) (T := TX8) (N := 9) hx hb hts hin8 hown hK hP 0 rfl rfl 4 (by decide) fl318 (fun _ h9 => h9) rfl dX11_valueOfWhole_117 ?_
                exact e_ri C0 (hf.symm.trans hF) dX11_valueOfWhole_120
              · have hf := ie_eq c7 hf
                have hok := ie_ok c7 hok
                by_cases c8 : a1 = 7
                · have hf := it_eq c8 hf
                  refine lv_tableIn (tgt := 121) (off := 120) hx hb dX11_valueOfWhole_1 (by rw [c8]; decide) (by rw [c8]; decide) (by rw [c8]; rfl) (by decide) ?_
                  refine lv_aload_n hx hb dX11_valueOfWhole_121 rfl (lv_at hl 0 rfl) ?_
                  refine va_get (D := (dC, dI)) (ci := 8) (v := .ref (qs 0)) (C := RX11) (T := TX11) (N := 8) hx hb hts hin11 hown hK hP 14 rfl rfl 3 (by decide) fl33 (fun _ h9 => h9) rfl dX11_valueOfWhole_122 ?_
                  have hPc := hP.sub (ws' := sw qs cI s9) [0, 1, 2, 3, 4] rfl
                  refine gro_i (va_runV (As := []) (rest := []) ⟨hx, hb, hml, hown, hts⟩ (mX8_pairCount l dC dI cI cB cO cL qs s9  ) (cwV 0 hts gX11_valueOfWhole_X8_pairCount rfl rfl rfl (by decide +kernel) ⟨Nat.le_of_ble_eq_true rfl, Nat.le_of_ble_eq_true rfl⟩) ⟨cP_blind, va_recv hK hPc (ci := 5) (q0 := 0) rfl rfl, cP_ok hPc hK hE⟩ rfl rfl hl.1 rfl (lv_room (Nat.le_of_ble_eq_true rfl)) dX11_valueOfWhole_125 ⟨Nat.zero_le _, Nat.zero_le _⟩) ?_
                  exact e_ri C0 (hf.symm.trans hF) dX11_valueOfWhole_128
                · have hf := ie_eq c8 hf
                  have hok := ie_ok c8 hok
                  by_cases c9 : a1 = 8
                  · have hf := it_eq c9 hf
                    have hok := it_ok c9 hok
                    refine lv_tableIn (tgt := 129) (off := 128) hx hb dX11_valueOfWhole_1 (by rw [c9]; decide) (by rw [c9]; decide) (by rw [c9]; rfl) (by decide) ?_
                    refine lv_aload_n hx hb dX11_valueOfWhole_129 rfl (lv_at hl 0 rfl) ?_
                    refine va_get (D := (dC, dI)) (ci := 8) (v := .ref (qs 0)) (C := RX11) (T := TX11) (N := 8) hx hb hts hin11 hown hK hP 14 rfl rfl 3 (by decide) fl33 (fun _ h9 => h9) rfl dX11_valueOfWhole_130 ?_
                    refine lv_aload_n hx hb dX11_valueOfWhole_133 rfl (lv_at hl 0 rfl) ?_
                    refine va_get (D := (dC, dI)) (ci := 8) (v := .ref (qs 0)) (C := RX11) (T := TX11) (N := 8) hx hb hts hin11 hown hK hP 14 rfl rfl 3 (by decide) fl33 (fun _ h9 => h9) rfl dX11_valueOfWhole_134 ?_
                    refine va_get (D := (dC, dI)) (ci := 5) (v := .int (s9.1 1)) (C := RX8) (T := TX8) (N := 9) hx hb hts hin8 hown hK hP 0 rfl rfl 5 (by decide) fl185 (fun _ h9 => h9) rfl dX11_valueOfWhole_137 ?_
                    have h10 : kX8_votesOf s9 (s9.1 1) := hok
                    have hPc := hP.sub (ws' := sw qs cI s9) [0, 1, 2, 3, 4] rfl
                    refine gro_i (va_runV (As := [.int (s9.1 1)]) (rest := []) ⟨hx, hb, hml, hown, hts⟩ (mX8_votesOf l dC dI cI cB cO cL qs s9 (s9.1 1)  h10) (cwV 1 hts gX11_valueOfWhole_X8_votesOf rfl rfl rfl (by decide +kernel) ⟨Nat.le_of_ble_eq_true rfl, Nat.le_of_ble_eq_true rfl⟩) ⟨cP_blind, va_recv hK hPc (ci := 5) (q0 := 0) rfl rfl, cP_ok hPc hK hE⟩ rfl rfl hl.1 rfl (lv_room (Nat.le_of_ble_eq_true rfl)) dX11_valueOfWhole_140 ⟨Nat.zero_le _, Nat.zero_le _⟩) ?_
                    exact e_ri C0 (hf.symm.trans hF) dX11_valueOfWhole_143
                  · have hf := ie_eq c9 hf
                    by_cases c11 : a1 = 9
                    · have hf := it_eq c11 hf
                      refine lv_tableIn (tgt := 144) (off := 143) hx hb dX11_valueOfWhole_1 (by rw [c11]; decide) (by rw [c11]; decide) (by rw [c11]; rfl) (by decide) ?_
                      refine lv_aload_n hx hb dX11_valueOfWhole_144 rfl (lv_at hl 0 rfl) ?_
                      refine va_get (D := (dC, dI)) (ci := 8) (v := .ref (qs 0)) (C := RX11) (T := TX11) (N := 8) hx hb hts hin11 hown hK hP 14 rfl rfl 3 (by decide) fl33 (fun _ h9 => h9) rfl dX11_valueOfWhole_145 ?_
                      refine va_get (D := (dC, dI)) (ci := 5) (v := .int (s9.1 2)) (C := RX8) (T := TX8) (N := 9) hx hb hts hin8 hown hK hP 0 rfl rfl 6 (by decide) fl188 (fun _ h9 => h9) rfl dX11_valueOfWhole_148 ?_
                      exact e_ri C0 (hf.symm.trans hF) dX11_valueOfWhole_151
                    · have hf := ie_eq c11 hf
                      refine lv_tableOut (tgt := 152) hx hb dX11_valueOfWhole_1 (by have h0_ := i32_ne (n := 0) rfl c1; have h1_ := i32_ne (n := 1) rfl c2; have h2_ := i32_ne (n := 2) rfl c3; have h3_ := i32_ne (n := 3) rfl c4; have h4_ := i32_ne (n := 4) rfl c5; have h5_ := i32_ne (n := 5) rfl c6; have h6_ := i32_ne (n := 6) rfl c7; have h7_ := i32_ne (n := 7) rfl c8; have h8_ := i32_ne (n := 8) rfl c9; have h9_ := i32_ne (n := 9) rfl c11; omega) (by decide) ?_
                      refine lv_aload_n hx hb dX11_valueOfWhole_152 rfl (lv_at hl 0 rfl) ?_
                      refine va_get (D := (dC, dI)) (ci := 8) (v := .ref (qb 0)) (C := RX11) (T := TX11) (N := 8) hx hb hts hin11 hown hK hP 14 rfl rfl 0 (by decide) fl10 (fun _ h9 => h9) rfl dX11_valueOfWhole_153 ?_
                      refine va_get (D := (dC, dI)) (ci := 1) (v := .int (b.1 3)) (C := RX2) (T := TX2) (N := 8) hx hb hts hin2 hown hK hP 5 rfl rfl 3 (by decide) fl140 (fun _ h9 => h9) rfl dX11_valueOfWhole_156 ?_
                      exact e_ri C0 (hf.symm.trans hF) dX11_valueOfWhole_159
abbrev rX11_found : Room := { frames := 6, cells := 0, slots := 0, locals := 148 }
set_option maxHeartbeats 4000000 in
set_option maxRecDepth 100000 in
theorem mX11_found (l : Launch) (dC : Nat → ClassId) (dI : Nat → Nat → Nat) (cI cB cO cL : ClassId) (qs : Nat → Nat) (qb : Nat → Nat) (qk : Nat → Nat) (qr : Nat → Nat) (qe : Nat → Nat) (qu : Nat → Nat) (qx : Nat → Nat) (qd : Nat → Nat) (s9 : SS) (b : BS) (kk : Int32) (hI : gD (fun _ => True) (sAd qs ++ bAd qb ++ kAd qk)) (hok : kX11_found s9 b kk) : Met l yX11_found wsX11_found rX11_found (cP (dC, dI) (tYS cI cB cO cL) (sw qs cI s9 ++ bw qb cI b ++ kw qk qb qr qe qs qu qx qd cI kk) [.ref (qk 0)]) (gQi (dC, dI) (fun z9 : SS × BS × Int32 => sw qs cI z9.1 ++ bw qb cI z9.2.1 ++ kw qk qb qr qe qs qu qx qd cI z9.2.2) (wA (sw qs cI s9 ++ bw qb cI b ++ kw qk qb qr qe qs qu qx qd cI kk)) (pX11_found s9 b kk)) 0 0 (wA (sw qs cI s9 ++ bw qb cI b ++ kw qk qb qr qe qs qu qx qd cI kk)) := by
  refine cMet (cc := cX11_found) (maxL := 1) (ret := some .int) [(0, .ref (qk 0))] (by decide) rfl rfl rfl ?_
  intro p e s mi below meth c C0 hK hE hP ls hl
  obtain ⟨hx, hb, hr, hml, hown, hts, hlocks⟩ := id C0
  have hown : s.vm.findClass RX11 = some mi.cls := hown
  have hS : va_S (wA (sw qs cI s9 ++ bw qb cI b ++ kw qk qb qr qe qs qu qx qd cI kk)) s.heap s.heap [] := va_S.rf
  have hD : gD (wA (sw qs cI s9 ++ bw qb cI b ++ kw qk qb qr qe qs qu qx qd cI kk)) (sAd qs ++ bAd qb ++ kAd qk) := gD_wA (ws := sw qs cI s9 ++ bw qb cI b ++ kw qk qb qr qe qs qu qx qd cI kk) hI
  have hP : va_P (dC, dI) vwCl (sw qs cI s9 ++ bw qb cI b ++ kw qk qb qr qe qs qu qx qd cI kk) s.heap := hP
  obtain ⟨F, hF⟩ : ∃ F, F = pX11_found s9 b kk := ⟨_, rfl⟩
  have hf := hF
  have hin11 : ∀ w ∈ u_ws RX11 TX11 8, w ∈ wsX11_found := by decide +kernel
  have hin8 : ∀ w ∈ u_ws RX8 TX8 9, w ∈ wsX11_found := by decide +kernel
  have fl33 := hts (.fieldLink RX11 33 "ClickBench" "survey" "LClickBench$Survey;") (by decide +kernel)
  have fl10 := hts (.fieldLink RX11 10 "ClickBench" "bench" "LClickBench$Bench;") (by decide +kernel)
  have fl185 := hts (.fieldLink RX11 185 "ClickBench$Survey" "best" "I") (by decide +kernel)
  refine lv_aload_n hx hb dX11_found_0 rfl (lv_at hl 0 rfl) ?_
  refine va_get (D := (dC, dI)) (ci := 8) (v := .ref (qs 0)) (C := RX11) (T := TX11) (N := 8) hx hb hts hin11 hown hK hP 14 rfl rfl 3 (by decide) fl33 (fun _ h9 => h9) rfl dX11_found_1 ?_
  refine lv_aload_n hx hb dX11_found_4 rfl (lv_at hl 0 rfl) ?_
  refine va_get (D := (dC, dI)) (ci := 8) (v := .ref (qb 0)) (C := RX11) (T := TX11) (N := 8) hx hb hts hin11 hown hK hP 14 rfl rfl 0 (by decide) fl10 (fun _ h9 => h9) rfl dX11_found_5 ?_
  refine lv_iconst (v := (-1)) hx hb dX11_found_8 (by decide) ?_
  have h1 : kX8_take s9 b (-1) := hok
  have hPc := hP.sub (ws' := sw qs cI s9 ++ bw qb cI b) [0, 1, 2, 3, 4, 5, 6, 7, 8, 9, 10, 11, 12, 13] rfl
  refine gmu_v (va_runV (As := [.ref (qb 0), .int (-1)]) (rest := []) ⟨hx, hb, hml, hown, hts⟩ (mX8_take l dC dI cI cB cO cL qs qb s9 b (-1) (gD_subT hD [0, 1, 2, 3, 4, 5, 6, 7, 8, 9, 10, 11, 12, 13] rfl rfl) h1) (cwV 2 hts gX11_found_X8_take rfl rfl rfl (by decide +kernel) ⟨Nat.le_of_ble_eq_true rfl, Nat.le_of_ble_eq_true rfl⟩) ⟨cP_blind, va_recv hK hPc (ci := 5) (q0 := 0) rfl rfl, cP_ok hPc hK hE⟩ rfl rfl hl.1 rfl (lv_room (Nat.le_of_ble_eq_true rfl)) dX11_found_9 ⟨Nat.zero_le _, Nat.zero_le _⟩) hP (gD_va hD rfl) hS [0, 1, 2, 3, 4, 5, 6, 7, 8, 9, 10, 11, 12, 13] rfl (fun _ => rfl) (fun u3 H locs hw hP hS => ?_)
  have hP : va_P (dC, dI) vwCl (sw qs cI u3.1 ++ bw qb cI u3.2 ++ kw qk qb qr qe qs qu qx qd cI kk) H := hP
  have hf := lt_eq hw hf
  refine lv_aload_n hx hb dX11_found_12 rfl (lv_at hl 0 rfl) ?_
  refine va_get (D := (dC, dI)) (ci := 8) (v := .ref (qs 0)) (C := RX11) (T := TX11) (N := 8) hx hb hts hin11 hown hK hP 14 rfl rfl 3 (by decide) fl33 (fun _ h9 => h9) rfl dX11_found_13 ?_
  refine va_get (D := (dC, dI)) (ci := 5) (v := .int (u3.1.1 1)) (C := RX8) (T := TX8) (N := 9) hx hb hts hin8 hown hK hP 0 rfl rfl 5 (by decide) fl185 (fun _ h9 => h9) rfl dX11_found_16 ?_
  exact e_mi C0 (hf.symm.trans hF) hP hS dX11_found_19
abbrev rX11_clearCommands : Room := { frames := 1, cells := 0, slots := 0, locals := 21 }
set_option maxHeartbeats 4000000 in
set_option maxRecDepth 100000 in
theorem mX11_clearCommands (l : Launch) (dC : Nat → ClassId) (dI : Nat → Nat → Nat) (cI cB cO cL : ClassId) (qx : Nat → Nat) (qk : Nat → Nat) (qb : Nat → Nat) (qr : Nat → Nat) (qe : Nat → Nat) (qs : Nat → Nat) (qu : Nat → Nat) (qd : Nat → Nat) (x : TS) (kk : Int32) (hI : gD (fun _ => True) (xAd qx ++ kAd qk)) : Met l yX11_clearCommands wsX11_clearCommands rX11_clearCommands (cP (dC, dI) (tYS cI cB cO cL) (xw qx cI x ++ kw qk qb qr qe qs qu qx qd cI kk) [.ref (qk 0)]) (gQi (dC, dI) (fun z9 : TS × Int32 => xw qx cI z9.1 ++ kw qk qb qr qe qs qu qx qd cI z9.2) (wA (xw qx cI x ++ kw qk qb qr qe qs qu qx qd cI kk)) (pX11_clearCommands x kk)) 0 0 (wA (xw qx cI x ++ kw qk qb qr qe qs qu qx qd cI kk)) := by
  refine cMet (cc := cX11_clearCommands) (maxL := 1) (ret := some .int) [(0, .ref (qk 0))] (by decide) rfl rfl rfl ?_
  intro p e s mi below meth c C0 hK hE hP ls hl
  obtain ⟨hx, hb, hr, hml, hown, hts, hlocks⟩ := id C0
  have hown : s.vm.findClass RX11 = some mi.cls := hown
  have hS : va_S (wA (xw qx cI x ++ kw qk qb qr qe qs qu qx qd cI kk)) s.heap s.heap [] := va_S.rf
  have hD : gD (wA (xw qx cI x ++ kw qk qb qr qe qs qu qx qd cI kk)) (xAd qx ++ kAd qk) := gD_wA (ws := xw qx cI x ++ kw qk qb qr qe qs qu qx qd cI kk) hI
  have hP : va_P (dC, dI) vwCl (xw qx cI x ++ kw qk qb qr qe qs qu qx qd cI kk) s.heap := hP
  obtain ⟨F, hF⟩ : ∃ F, F = pX11_clearCommands x kk := ⟨_, rfl⟩
  have hf := hF
  have hin11 : ∀ w ∈ u_ws RX11 TX11 8, w ∈ wsX11_clearCommands := by decide +kernel
  have fl47 := hts (.fieldLink RX11 47 "ClickBench" "text" "LClickBench$CommandText;") (by decide +kernel)
  refine lv_aload_n hx hb dX11_clearCommands_0 rfl (lv_at hl 0 rfl) ?_
  refine va_get (D := (dC, dI)) (ci := 8) (v := .ref (qx 0)) (C := RX11) (T := TX11) (N := 8) hx hb hts hin11 hown hK hP 2 rfl rfl 5 (by decide) fl47 (fun _ h9 => h9) rfl dX11_clearCommands_1 ?_
  have hPc := hP.sub (ws' := xw qx cI x) [0, 1] rfl
  refine gmu_i (va_runV (As := []) (rest := []) ⟨hx, hb, hml, hown, hts⟩ (mX5_empty l dC dI cI cB cO cL qx x (gD_subT hD [0, 1] rfl rfl) ) (cwV 0 hts gX11_clearCommands_X5_empty rfl rfl rfl (by decide +kernel) ⟨Nat.le_of_ble_eq_true rfl, Nat.le_of_ble_eq_true rfl⟩) ⟨cP_blind, va_recv hK hPc (ci := 3) (q0 := 0) rfl rfl, cP_ok hPc hK hE⟩ rfl rfl hl.1 rfl (lv_room (Nat.le_of_ble_eq_true rfl)) dX11_clearCommands_4 ⟨Nat.zero_le _, Nat.zero_le _⟩) hP (gD_va hD rfl) hS [0, 1] rfl (fun _ => rfl) (fun r1 u2 H locs hw hP hS => ?_)
  have hP : va_P (dC, dI) vwCl (xw qx cI u2 ++ kw qk qb qr qe qs qu qx qd cI kk) H := hP
  have hf := bd_eq hw hf
  exact e_mi C0 (hf.symm.trans hF) hP hS dX11_clearCommands_7
abbrev rX11_stop : Room := { frames := 0, cells := 0, slots := 0, locals := 0 }
set_option maxHeartbeats 4000000 in
set_option maxRecDepth 100000 in
theorem mX11_stop (l : Launch) (dC : Nat → ClassId) (dI : Nat → Nat → Nat) (cI cB cO cL : ClassId) (qk : Nat → Nat) (qb : Nat → Nat) (qr : Nat → Nat) (qe : Nat → Nat) (qs : Nat → Nat) (qu : Nat → Nat) (qx : Nat → Nat) (qd : Nat → Nat) (kk : Int32) : Met l yX11_stop wsX11_stop rX11_stop (cP (dC, dI) (tYS cI cB cO cL) (kw qk qb qr qe qs qu qx qd cI kk) [.ref (qk 0)]) (gRi (pX11_stop kk)) 0 0 (fun _ => False) := by
  refine cMet (cc := cX11_stop) (maxL := 1) (ret := some .int) [(0, .ref (qk 0))] (by decide) rfl rfl rfl ?_
  intro p e s mi below meth c C0 hK hE hP ls hl
  obtain ⟨hx, hb, hr, hml, hown, hts, hlocks⟩ := id C0
  have hown : s.vm.findClass RX11 = some mi.cls := hown
  obtain ⟨F, hF⟩ : ∃ F, F = pX11_stop kk := ⟨_, rfl⟩
  have hf := hF
  have hin11 : ∀ w ∈ u_ws RX11 TX11 8, w ∈ wsX11_stop := by decide +kernel
  have fl58 := hts (.fieldLink RX11 58 "ClickBench" "latestStop" "I") (by decide +kernel)
  refine lv_aload_n hx hb dX11_stop_0 rfl (lv_at hl 0 rfl) ?_
  refine va_get (D := (dC, dI)) (ci := 8) (v := .int kk) (C := RX11) (T := TX11) (N := 8) hx hb hts hin11 hown hK hP 0 rfl rfl 7 (by decide) fl58 (fun _ h9 => h9) rfl dX11_stop_1 ?_
  exact e_ri C0 (hf.symm.trans hF) dX11_stop_4
abbrev rX11_mixCells : Room := { frames := 2, cells := 0, slots := 0, locals := 43 }
set_option maxHeartbeats 4000000 in
set_option maxRecDepth 100000 in
theorem mX11_mixCells (l : Launch) (dC : Nat → ClassId) (dI : Nat → Nat → Nat) (cI cB cO cL : ClassId) (qs : Nat → Nat) (qb : Nat → Nat) (qk : Nat → Nat) (qr : Nat → Nat) (qe : Nat → Nat) (qu : Nat → Nat) (qx : Nat → Nat) (qd : Nat → Nat) (s9 : SS) (b : BS) (kk : Int32) (a1 : Int64) (hok : kX11_mixCells s9 b kk a1) : Met l yX11_mixCells wsX11_mixCells rX11_mixCells (cP (dC, dI) (tYS cI cB cO cL) (sw qs cI s9 ++ bw qb cI b ++ kw qk qb qr qe qs qu qx qd cI kk) [.ref (qk 0), .long a1]) (gRl (pX11_mixCells s9 b kk a1)) 0 0 (fun _ => False) := by
  refine cMet (cc := cX11_mixCells) (maxL := 6) (ret := some .long) [(0, .ref (qk 0)), (1, .long a1)] (by decide) rfl rfl rfl ?_
  intro p e s mi below meth c C0 hK hE hP ls hl
  obtain ⟨hx, hb, hr, hml, hown, hts, hlocks⟩ := id C0
  have hown : s.vm.findClass RX11 = some mi.cls := hown
  obtain ⟨F, hF⟩ : ∃ F, F = pX11_mixCells s9 b kk a1 := ⟨_, rfl⟩
  have hf := hF
  have hin11 : ∀ w ∈ u_ws RX11 TX11 8, w ∈ wsX11_mixCells := by decide +kernel
  have fl10 := hts (.fieldLink RX11 10 "ClickBench" "bench" "LClickBench$Bench;") (by decide +kernel)
  have fl33 := hts (.fieldLink RX11 33 "ClickBench" "survey" "LClickBench$Survey;") (by decide +kernel)
  have J_5 : ∀ (n_5 : Nat) (v3_5 : Int64) (v5_5 : Int32), ∀ ls : Array Slot, lv_has ls 6 [(0, .ref (qk 0)), (3, .long v3_5), (5, .int v5_5)] → F = pX11_mixCells_L5 s9 b kk n_5 v3_5 v5_5 → kX11_mixCells_L5 s9 b kk n_5 v3_5 v5_5 → W p l e rX11_mixCells s mi ([.ref (qk 0), .long a1] : List Value).toArray below meth c s.heap [] 0 0 (MQ below (gRl (pX11_mixCells s9 b kk a1)) ([.ref (qk 0), .long a1] : List Value).toArray s 0 0 (fun _ => False)) (F0 mi 5 ls []) := by
    intro n_5
    induction n_5 with
    | zero =>
      intro v3_5 v5_5 ls hl hf hok
      exact absurd hok (fun h => h)
    | succ n_5 ih_5 =>
      intro v3_5 v5_5 ls hl hf hok
      have hf : F = bX11_mixCells_L5 s9 b kk (pX11_mixCells_L5 s9 b kk n_5) v3_5 v5_5 := hf
      have hok : kbX11_mixCells_L5 s9 b kk (kX11_mixCells_L5 s9 b kk n_5) v3_5 v5_5 := hok
      refine lv_iload hx hb dX11_mixCells_5 (lv_at hl 2 rfl) ?_
      refine lv_aload_n hx hb dX11_mixCells_7 rfl (lv_at hl 0 rfl) ?_
      refine va_get (D := (dC, dI)) (ci := 8) (v := .ref (qb 0)) (C := RX11) (T := TX11) (N := 8) hx hb hts hin11 hown hK hP 14 rfl rfl 0 (by decide) fl10 (fun _ h9 => h9) rfl dX11_mixCells_8 ?_
      have hPc := hP.sub (ws' := bw qb cI b) [5, 6, 7, 8, 9, 10, 11, 12, 13] rfl
      refine gro_i (va_runV (As := []) (rest := [.int v5_5]) ⟨hx, hb, hml, hown, hts⟩ (mX2_cellCount l dC dI cI cB cO cL qb b  ) (cwV 0 hts gX11_mixCells_X2_cellCount rfl rfl rfl (by decide +kernel) ⟨Nat.le_of_ble_eq_true rfl, Nat.le_of_ble_eq_true rfl⟩) ⟨cP_blind, va_recv hK hPc (ci := 1) (q0 := 0) rfl rfl, cP_ok hPc hK hE⟩ rfl rfl hl.1 rfl (lv_room (Nat.le_of_ble_eq_true rfl)) dX11_mixCells_11 ⟨Nat.zero_le _, Nat.zero_le _⟩) ?_
      refine lv_icmp_ge (tgt := 53) hx hb dX11_mixCells_14 (by decide) (fun c1 => ?_) (fun c1 => ?_)
      · have hf := it_eq c1 hf
        refine lv_lload_n hx hb dX11_mixCells_53 rfl (lv_at hl 1 rfl) ?_
        exact e_rl C0 (hf.symm.trans hF) dX11_mixCells_54
      · have hf := ie_eq c1 hf
        have hok := ie_ok c1 hok
        refine lv_lload_n hx hb dX11_mixCells_17 rfl (lv_at hl 1 rfl) ?_
        refine lv_aload_n hx hb dX11_mixCells_18 rfl (lv_at hl 0 rfl) ?_
        refine va_get (D := (dC, dI)) (ci := 8) (v := .ref (qs 0)) (C := RX11) (T := TX11) (N := 8) hx hb hts hin11 hown hK hP 14 rfl rfl 3 (by decide) fl33 (fun _ h9 => h9) rfl dX11_mixCells_19 ?_
        refine lv_iload hx hb dX11_mixCells_22 (lv_at hl 2 rfl) ?_
        obtain ⟨h2, hok⟩ := hok
        have hPc := hP.sub (ws' := sw qs cI s9) [0, 1, 2, 3, 4] rfl
        refine gro_i (va_runV (As := [.int v5_5]) (rest := [.long v3_5]) ⟨hx, hb, hml, hown, hts⟩ (mX8_votesOf l dC dI cI cB cO cL qs s9 v5_5  h2) (cwV 1 hts gX11_mixCells_X8_votesOf rfl rfl rfl (by decide +kernel) ⟨Nat.le_of_ble_eq_true rfl, Nat.le_of_ble_eq_true rfl⟩) ⟨cP_blind, va_recv hK hPc (ci := 5) (q0 := 0) rfl rfl, cP_ok hPc hK hE⟩ rfl rfl hl.1 rfl (lv_room (Nat.le_of_ble_eq_true rfl)) dX11_mixCells_24 ⟨Nat.zero_le _, Nat.zero_le _⟩) ?_
        refine lv_i2l hx hb dX11_mixCells_27 rfl ?_
        refine gro_l (va_runS (As := [.long v3_5, .long ((pX8_votesOf s9 v5_5).toInt64)]) (rest := []) ⟨hx, hb, hml, hown, hts⟩ (mX11_mix l dC dI cI cB cO cL  v3_5 ((pX8_votesOf s9 v5_5).toInt64)  ) (va_cwS 2 hts gX11_mixCells_X11_mix rfl rfl rfl (by decide +kernel) ⟨Nat.le_of_ble_eq_true rfl, Nat.le_of_ble_eq_true rfl⟩) ⟨cP_blind, cP_ok va_P_nil hK hE⟩ rfl rfl hl.1 rfl (lv_room (Nat.le_of_ble_eq_true rfl)) dX11_mixCells_28 ⟨Nat.zero_le _, Nat.zero_le _⟩) ?_
        refine lv_topl (fun x3 ex3 => ?_)
        have hf := lt_eq ex3 hf
        have hok := lt_ok ex3 hok
        refine lv_lstore_n (lv' := [(3, .long x3), (0, .ref (qk 0)), (5, .int v5_5)]) hx hb dX11_mixCells_31 rfl hl (by decide) rfl (fun ls hl => ?_)
        refine lv_lload_n hx hb dX11_mixCells_32 rfl (lv_at hl 0 rfl) ?_
        refine lv_aload_n hx hb dX11_mixCells_33 rfl (lv_at hl 1 rfl) ?_
        refine va_get (D := (dC, dI)) (ci := 8) (v := .ref (qs 0)) (C := RX11) (T := TX11) (N := 8) hx hb hts hin11 hown hK hP 14 rfl rfl 3 (by decide) fl33 (fun _ h9 => h9) rfl dX11_mixCells_34 ?_
        refine lv_iload hx hb dX11_mixCells_37 (lv_at hl 2 rfl) ?_
        obtain ⟨h4, hok⟩ := hok
        have hPc := hP.sub (ws' := sw qs cI s9) [0, 1, 2, 3, 4] rfl
        refine gro_i (va_runV (As := [.int v5_5]) (rest := [.long x3]) ⟨hx, hb, hml, hown, hts⟩ (mX8_errorOf l dC dI cI cB cO cL qs s9 v5_5  h4) (cwV 1 hts gX11_mixCells_X8_errorOf rfl rfl rfl (by decide +kernel) ⟨Nat.le_of_ble_eq_true rfl, Nat.le_of_ble_eq_true rfl⟩) ⟨cP_blind, va_recv hK hPc (ci := 5) (q0 := 0) rfl rfl, cP_ok hPc hK hE⟩ rfl rfl hl.1 rfl (lv_room (Nat.le_of_ble_eq_true rfl)) dX11_mixCells_39 ⟨Nat.zero_le _, Nat.zero_le _⟩) ?_
        refine lv_i2l hx hb dX11_mixCells_42 rfl ?_
        refine gro_l (va_runS (As := [.long x3, .long ((pX8_errorOf s9 v5_5).toInt64)]) (rest := []) ⟨hx, hb, hml, hown, hts⟩ (mX11_mix l dC dI cI cB cO cL  x3 ((pX8_errorOf s9 v5_5).toInt64)  ) (va_cwS 2 hts gX11_mixCells_X11_mix rfl rfl rfl (by decide +kernel) ⟨Nat.le_of_ble_eq_true rfl, Nat.le_of_ble_eq_true rfl⟩) ⟨cP_blind, cP_ok va_P_nil hK hE⟩ rfl rfl hl.1 rfl (lv_room (Nat.le_of_ble_eq_true rfl)) dX11_mixCells_43 ⟨Nat.zero_le _, Nat.zero_le _⟩) ?_
        refine lv_topl (fun x5 ex5 => ?_)
        have hf := lt_eq ex5 hf
        have hok := lt_ok ex5 hok
        refine lv_lstore_n (lv' := [(3, .long x5), (0, .ref (qk 0)), (5, .int v5_5)]) hx hb dX11_mixCells_46 rfl hl (by decide) rfl (fun ls hl => ?_)
        obtain ⟨x6, ex6⟩ : ∃ y : Int32, y = v5_5 + 1 := ⟨_, rfl⟩
        refine lv_iinc (v := x6) (lv' := [(5, .int x6), (3, .long x5), (0, .ref (qk 0))]) hx hb dX11_mixCells_47 hl (k := 2) rfl (by rw [ex6]; rfl) (by decide) rfl (fun ls hl => ?_)
        have hf := lt_eq ex6 hf
        have hok := lt_ok ex6 hok
        refine lv_goto (tgt := 5) hx hb dX11_mixCells_50 (by decide) ?_
        exact ih_5 x5 x6 _ (lv_sub hl [2, 1, 0] rfl) hf hok
  refine lv_lload_n hx hb dX11_mixCells_0 rfl (lv_at hl 1 rfl) ?_
  refine lv_lstore_n (lv' := [(3, .long a1), (0, .ref (qk 0)), (1, .long a1)]) hx hb dX11_mixCells_1 rfl hl (by decide) rfl (fun ls hl => ?_)
  refine lv_iconst (v := 0) hx hb dX11_mixCells_2 (by decide) ?_
  refine lv_istore (lv' := [(5, .int 0), (3, .long a1), (0, .ref (qk 0)), (1, .long a1)]) hx hb dX11_mixCells_3 hl (by decide) rfl (fun ls hl => ?_)
  exact J_5 fu a1 0 _ (lv_sub hl [2, 1, 0] rfl) hf hok
abbrev rX11_suspect : Room := { frames := 6, cells := 0, slots := 0, locals := 148 }
set_option maxHeartbeats 4000000 in
set_option maxRecDepth 100000 in
theorem mX11_suspect (l : Launch) (dC : Nat → ClassId) (dI : Nat → Nat → Nat) (cI cB cO cL : ClassId) (qs : Nat → Nat) (qb : Nat → Nat) (qk : Nat → Nat) (qr : Nat → Nat) (qe : Nat → Nat) (qu : Nat → Nat) (qx : Nat → Nat) (qd : Nat → Nat) (s9 : SS) (b : BS) (kk : Int32) (hI : gD (fun _ => True) (sAd qs ++ bAd qb ++ kAd qk)) (hok : kX11_suspect s9 b kk) : Met l yX11_suspect wsX11_suspect rX11_suspect (cP (dC, dI) (tYS cI cB cO cL) (sw qs cI s9 ++ bw qb cI b ++ kw qk qb qr qe qs qu qx qd cI kk) [.ref (qk 0)]) (gQi (dC, dI) (fun z9 : SS × BS × Int32 => sw qs cI z9.1 ++ bw qb cI z9.2.1 ++ kw qk qb qr qe qs qu qx qd cI z9.2.2) (wA (sw qs cI s9 ++ bw qb cI b ++ kw qk qb qr qe qs qu qx qd cI kk)) (pX11_suspect s9 b kk)) 0 0 (wA (sw qs cI s9 ++ bw qb cI b ++ kw qk qb qr qe qs qu qx qd cI kk)) := by
  refine cMet (cc := cX11_suspect) (maxL := 1) (ret := some .int) [(0, .ref (qk 0))] (by decide) rfl rfl rfl ?_
  intro p e s mi below meth c C0 hK hE hP ls hl
  obtain ⟨hx, hb, hr, hml, hown, hts, hlocks⟩ := id C0
  have hown : s.vm.findClass RX11 = some mi.cls := hown
  have hS : va_S (wA (sw qs cI s9 ++ bw qb cI b ++ kw qk qb qr qe qs qu qx qd cI kk)) s.heap s.heap [] := va_S.rf
  have hD : gD (wA (sw qs cI s9 ++ bw qb cI b ++ kw qk qb qr qe qs qu qx qd cI kk)) (sAd qs ++ bAd qb ++ kAd qk) := gD_wA (ws := sw qs cI s9 ++ bw qb cI b ++ kw qk qb qr qe qs qu qx qd cI kk) hI
  have hP : va_P (dC, dI) vwCl (sw qs cI s9 ++ bw qb cI b ++ kw qk qb qr qe qs qu qx qd cI kk) s.heap := hP
  obtain ⟨F, hF⟩ : ∃ F, F = pX11_suspect s9 b kk := ⟨_, rfl⟩
  have hf := hF
  have hin11 : ∀ w ∈ u_ws RX11 TX11 8, w ∈ wsX11_suspect := by decide +kernel
  have fl33 := hts (.fieldLink RX11 33 "ClickBench" "survey" "LClickBench$Survey;") (by decide +kernel)
  have fl10 := hts (.fieldLink RX11 10 "ClickBench" "bench" "LClickBench$Bench;") (by decide +kernel)
  refine lv_aload_n hx hb dX11_suspect_0 rfl (lv_at hl 0 rfl) ?_
  refine va_get (D := (dC, dI)) (ci := 8) (v := .ref (qs 0)) (C := RX11) (T := TX11) (N := 8) hx hb hts hin11 hown hK hP 14 rfl rfl 3 (by decide) fl33 (fun _ h9 => h9) rfl dX11_suspect_1 ?_
  refine lv_aload_n hx hb dX11_suspect_4 rfl (lv_at hl 0 rfl) ?_
  refine va_get (D := (dC, dI)) (ci := 8) (v := .ref (qb 0)) (C := RX11) (T := TX11) (N := 8) hx hb hts hin11 hown hK hP 14 rfl rfl 0 (by decide) fl10 (fun _ h9 => h9) rfl dX11_suspect_5 ?_
  refine lv_iconst (v := (-1)) hx hb dX11_suspect_8 (by decide) ?_
  obtain ⟨h1, hok⟩ := hok
  have hPc := hP.sub (ws' := sw qs cI s9 ++ bw qb cI b) [0, 1, 2, 3, 4, 5, 6, 7, 8, 9, 10, 11, 12, 13] rfl
  refine gmu_v (va_runV (As := [.ref (qb 0), .int (-1)]) (rest := []) ⟨hx, hb, hml, hown, hts⟩ (mX8_take l dC dI cI cB cO cL qs qb s9 b (-1) (gD_subT hD [0, 1, 2, 3, 4, 5, 6, 7, 8, 9, 10, 11, 12, 13] rfl rfl) h1) (cwV 2 hts gX11_suspect_X8_take rfl rfl rfl (by decide +kernel) ⟨Nat.le_of_ble_eq_true rfl, Nat.le_of_ble_eq_true rfl⟩) ⟨cP_blind, va_recv hK hPc (ci := 5) (q0 := 0) rfl rfl, cP_ok hPc hK hE⟩ rfl rfl hl.1 rfl (lv_room (Nat.le_of_ble_eq_true rfl)) dX11_suspect_9 ⟨Nat.zero_le _, Nat.zero_le _⟩) hP (gD_va hD rfl) hS [0, 1, 2, 3, 4, 5, 6, 7, 8, 9, 10, 11, 12, 13] rfl (fun _ => rfl) (fun u3 H locs hw hP hS => ?_)
  have hP : va_P (dC, dI) vwCl (sw qs cI u3.1 ++ bw qb cI u3.2 ++ kw qk qb qr qe qs qu qx qd cI kk) H := hP
  have hf := lt_eq hw hf
  have hok := lt_ok hw hok
  refine lv_aload_n hx hb dX11_suspect_12 rfl (lv_at hl 0 rfl) ?_
  refine va_get (D := (dC, dI)) (ci := 8) (v := .ref (qs 0)) (C := RX11) (T := TX11) (N := 8) hx hb hts hin11 hown hK hP 14 rfl rfl 3 (by decide) fl33 (fun _ h9 => h9) rfl dX11_suspect_13 ?_
  refine lv_aload_n hx hb dX11_suspect_16 rfl (lv_at hl 0 rfl) ?_
  refine va_get (D := (dC, dI)) (ci := 8) (v := .ref (qb 0)) (C := RX11) (T := TX11) (N := 8) hx hb hts hin11 hown hK hP 14 rfl rfl 0 (by decide) fl10 (fun _ h9 => h9) rfl dX11_suspect_17 ?_
  have h4 : kX8_mostBlamed u3.1 u3.2 := hok
  have hPc := hP.sub (ws' := sw qs cI u3.1 ++ bw qb cI u3.2) [0, 1, 2, 3, 4, 5, 6, 7, 8, 9, 10, 11, 12, 13] rfl
  refine gmu_i (va_runV (As := [.ref (qb 0)]) (rest := []) ⟨hx, hb, hml, hown, hts⟩ (mX8_mostBlamed l dC dI cI cB cO cL qs qb u3.1 u3.2 (gD_subT hD [0, 1, 2, 3, 4, 5, 6, 7, 8, 9, 10, 11, 12, 13] rfl rfl) h4) (cwV 1 hts gX11_suspect_X8_mostBlamed rfl rfl rfl (by decide +kernel) ⟨Nat.le_of_ble_eq_true rfl, Nat.le_of_ble_eq_true rfl⟩) ⟨cP_blind, va_recv hK hPc (ci := 5) (q0 := 0) rfl rfl, cP_ok hPc hK hE⟩ rfl rfl hl.1 rfl (lv_room (Nat.le_of_ble_eq_true rfl)) dX11_suspect_20 ⟨Nat.zero_le _, Nat.zero_le _⟩) hP (gD_va hD rfl) hS [0, 1, 2, 3, 4, 5, 6, 7, 8, 9, 10, 11, 12, 13] rfl (fun _ => rfl) (fun r5 u6 H locs hw hP hS => ?_)
  have hP : va_P (dC, dI) vwCl (sw qs cI u6.1 ++ bw qb cI u6.2 ++ kw qk qb qr qe qs qu qx qd cI kk) H := hP
  have hf := bd_eq hw hf
  exact e_mi C0 (hf.symm.trans hF) hP hS dX11_suspect_23
abbrev rX11_middle : Room := { frames := 6, cells := 0, slots := 0, locals := 148 }
set_option maxHeartbeats 4000000 in
set_option maxRecDepth 100000 in
theorem mX11_middle (l : Launch) (dC : Nat → ClassId) (dI : Nat → Nat → Nat) (cI cB cO cL : ClassId) (qs : Nat → Nat) (qb : Nat → Nat) (qk : Nat → Nat) (qr : Nat → Nat) (qe : Nat → Nat) (qu : Nat → Nat) (qx : Nat → Nat) (qd : Nat → Nat) (s9 : SS) (b : BS) (kk : Int32) (a1 : Bool) (hI : gD (fun _ => True) (sAd qs ++ bAd qb ++ kAd qk)) (hok : kX11_middle s9 b kk a1) : Met l yX11_middle wsX11_middle rX11_middle (cP (dC, dI) (tYS cI cB cO cL) (sw qs cI s9 ++ bw qb cI b ++ kw qk qb qr qe qs qu qx qd cI kk) [.ref (qk 0), .int (bz a1)]) (gQd (dC, dI) (fun z9 : SS × BS × Int32 => sw qs cI z9.1 ++ bw qb cI z9.2.1 ++ kw qk qb qr qe qs qu qx qd cI z9.2.2) (wA (sw qs cI s9 ++ bw qb cI b ++ kw qk qb qr qe qs qu qx qd cI kk)) (pX11_middle s9 b kk a1)) 0 0 (wA (sw qs cI s9 ++ bw qb cI b ++ kw qk qb qr qe qs qu qx qd cI kk)) := by
  refine cMet (cc := cX11_middle) (maxL := 4) (ret := some .double) [(0, .ref (qk 0)), (1, .int (bz a1))] (by decide) rfl rfl rfl ?_
  intro p e s mi below meth c C0 hK hE hP ls hl
  obtain ⟨hx, hb, hr, hml, hown, hts, hlocks⟩ := id C0
  have hown : s.vm.findClass RX11 = some mi.cls := hown
  have hS : va_S (wA (sw qs cI s9 ++ bw qb cI b ++ kw qk qb qr qe qs qu qx qd cI kk)) s.heap s.heap [] := va_S.rf
  have hD : gD (wA (sw qs cI s9 ++ bw qb cI b ++ kw qk qb qr qe qs qu qx qd cI kk)) (sAd qs ++ bAd qb ++ kAd qk) := gD_wA (ws := sw qs cI s9 ++ bw qb cI b ++ kw qk qb qr qe qs qu qx qd cI kk) hI
  have hP : va_P (dC, dI) vwCl (sw qs cI s9 ++ bw qb cI b ++ kw qk qb qr qe qs qu qx qd cI kk) s.heap := hP
  obtain ⟨F, hF⟩ : ∃ F, F = pX11_middle s9 b kk a1 := ⟨_, rfl⟩
  have hf := hF
  have hin11 : ∀ w ∈ u_ws RX11 TX11 8, w ∈ wsX11_middle := by decide +kernel
  have hin8 : ∀ w ∈ u_ws RX8 TX8 9, w ∈ wsX11_middle := by decide +kernel
  have fl33 := hts (.fieldLink RX11 33 "ClickBench" "survey" "LClickBench$Survey;") (by decide +kernel)
  have fl10 := hts (.fieldLink RX11 10 "ClickBench" "bench" "LClickBench$Bench;") (by decide +kernel)
  have fl188 := hts (.fieldLink RX11 188 "ClickBench$Survey" "tiedCells" "I") (by decide +kernel)
  have cn191 := hts (.constantDouble RX11 191 (13830554455654793216)) (by decide +kernel)
  refine lv_aload_n hx hb dX11_middle_0 rfl (lv_at hl 0 rfl) ?_
  refine va_get (D := (dC, dI)) (ci := 8) (v := .ref (qs 0)) (C := RX11) (T := TX11) (N := 8) hx hb hts hin11 hown hK hP 14 rfl rfl 3 (by decide) fl33 (fun _ h9 => h9) rfl dX11_middle_1 ?_
  refine lv_aload_n hx hb dX11_middle_4 rfl (lv_at hl 0 rfl) ?_
  refine va_get (D := (dC, dI)) (ci := 8) (v := .ref (qb 0)) (C := RX11) (T := TX11) (N := 8) hx hb hts hin11 hown hK hP 14 rfl rfl 0 (by decide) fl10 (fun _ h9 => h9) rfl dX11_middle_5 ?_
  refine lv_iconst (v := (-1)) hx hb dX11_middle_8 (by decide) ?_
  obtain ⟨h1, hok⟩ := hok
  have hPc := hP.sub (ws' := sw qs cI s9 ++ bw qb cI b) [0, 1, 2, 3, 4, 5, 6, 7, 8, 9, 10, 11, 12, 13] rfl
  refine gmu_v (va_runV (As := [.ref (qb 0), .int (-1)]) (rest := []) ⟨hx, hb, hml, hown, hts⟩ (mX8_take l dC dI cI cB cO cL qs qb s9 b (-1) (gD_subT hD [0, 1, 2, 3, 4, 5, 6, 7, 8, 9, 10, 11, 12, 13] rfl rfl) h1) (cwV 2 hts gX11_middle_X8_take rfl rfl rfl (by decide +kernel) ⟨Nat.le_of_ble_eq_true rfl, Nat.le_of_ble_eq_true rfl⟩) ⟨cP_blind, va_recv hK hPc (ci := 5) (q0 := 0) rfl rfl, cP_ok hPc hK hE⟩ rfl rfl hl.1 rfl (lv_room (Nat.le_of_ble_eq_true rfl)) dX11_middle_9 ⟨Nat.zero_le _, Nat.zero_le _⟩) hP (gD_va hD rfl) hS [0, 1, 2, 3, 4, 5, 6, 7, 8, 9, 10, 11, 12, 13] rfl (fun _ => rfl) (fun u3 H locs hw hP hS => ?_)
  have hP : va_P (dC, dI) vwCl (sw qs cI u3.1 ++ bw qb cI u3.2 ++ kw qk qb qr qe qs qu qx qd cI kk) H := hP
  have hf := lt_eq hw hf
  have hok := lt_ok hw hok
  refine lv_aload_n hx hb dX11_middle_12 rfl (lv_at hl 0 rfl) ?_
  refine va_get (D := (dC, dI)) (ci := 8) (v := .ref (qs 0)) (C := RX11) (T := TX11) (N := 8) hx hb hts hin11 hown hK hP 14 rfl rfl 3 (by decide) fl33 (fun _ h9 => h9) rfl dX11_middle_13 ?_
  refine va_get (D := (dC, dI)) (ci := 5) (v := .int (u3.1.1 2)) (C := RX8) (T := TX8) (N := 9) hx hb hts hin8 hown hK hP 0 rfl rfl 6 (by decide) fl188 (fun _ h9 => h9) rfl dX11_middle_16 ?_
  refine lv_topi (fun x4 ex4 => ?_)
  have hf := lt_eq ex4 hf
  have hok := lt_ok ex4 hok
  refine lv_istore_n (lv' := [(2, .int x4), (0, .ref (qk 0)), (1, .int (bz a1))]) hx hb dX11_middle_19 rfl hl (by decide) rfl (fun ls hl => ?_)
  refine lv_iload_n hx hb dX11_middle_20 rfl (lv_at hl 0 rfl) ?_
  refine lv_if_ne (tgt := 28) hx hb dX11_middle_21 (by decide) (fun c5 => ?_) (fun c5 => ?_)
  · have hf := ie_eq c5 hf
    have hok := ie_ok c5 hok
    refine lv_aload_n hx hb dX11_middle_28 rfl (lv_at hl 1 rfl) ?_
    refine va_get (D := (dC, dI)) (ci := 8) (v := .ref (qs 0)) (C := RX11) (T := TX11) (N := 8) hx hb hts hin11 hown hK hP 14 rfl rfl 3 (by decide) fl33 (fun _ h9 => h9) rfl dX11_middle_29 ?_
    refine lv_aload_n hx hb dX11_middle_32 rfl (lv_at hl 1 rfl) ?_
    refine va_get (D := (dC, dI)) (ci := 8) (v := .ref (qb 0)) (C := RX11) (T := TX11) (N := 8) hx hb hts hin11 hown hK hP 14 rfl rfl 0 (by decide) fl10 (fun _ h9 => h9) rfl dX11_middle_33 ?_
    refine lv_iload_n hx hb dX11_middle_36 rfl (lv_at hl 2 rfl) ?_
    obtain ⟨h6, hok⟩ := hok
    have hPc := hP.sub (ws' := sw qs cI u3.1 ++ bw qb cI u3.2) [0, 1, 2, 3, 4, 5, 6, 7, 8, 9, 10, 11, 12, 13] rfl
    refine gro_i (va_runV (As := [.ref (qb 0), .int (bz a1)]) (rest := []) ⟨hx, hb, hml, hown, hts⟩ (mX8_sumOfTied l dC dI cI cB cO cL qs qb u3.1 u3.2 a1  h6) (cwV 2 hts gX11_middle_X8_sumOfTied rfl rfl rfl (by decide +kernel) ⟨Nat.le_of_ble_eq_true rfl, Nat.le_of_ble_eq_true rfl⟩) ⟨cP_blind, va_recv hK hPc (ci := 5) (q0 := 0) rfl rfl, cP_ok hPc hK hE⟩ rfl rfl hl.1 rfl (lv_room (Nat.le_of_ble_eq_true rfl)) dX11_middle_37 ⟨Nat.zero_le _, Nat.zero_le _⟩) ?_
    refine lv_topi (fun x7 ex7 => ?_)
    have hf := lt_eq ex7 hf
    have hok := lt_ok ex7 hok
    refine lv_istore_n (lv' := [(3, .int x7), (2, .int x4), (0, .ref (qk 0)), (1, .int (bz a1))]) hx hb dX11_middle_40 rfl hl (by decide) rfl (fun ls hl => ?_)
    refine lv_iload_n hx hb dX11_middle_41 rfl (lv_at hl 0 rfl) ?_
    refine lv_i2d hx hb dX11_middle_42 ?_
    refine lv_iload_n hx hb dX11_middle_43 rfl (lv_at hl 1 rfl) ?_
    refine lv_i2d hx hb dX11_middle_44 ?_
    have h8 : vf_n64 (FP.ddiv (FP.i2d x7) (FP.i2d x4)) := hok
    refine lv_ddiv hx hb dX11_middle_45 h8 ?_
    exact e_md C0 (hf.symm.trans hF) hP hS dX11_middle_46
  · have hf := it_eq c5 hf
    refine lv_ldc2d (v := 13830554455654793216) hx hb hown cn191 dX11_middle_24 ?_
    exact e_md C0 (hf.symm.trans hF) hP hS dX11_middle_27
abbrev rX11_mixMicrophones : Room := { frames := 5, cells := 0, slots := 0, locals := 123 }
set_option maxHeartbeats 4000000 in
set_option maxRecDepth 100000 in
theorem mX11_mixMicrophones (l : Launch) (dC : Nat → ClassId) (dI : Nat → Nat → Nat) (cI cB cO cL : ClassId) (qs : Nat → Nat) (qb : Nat → Nat) (qk : Nat → Nat) (qr : Nat → Nat) (qe : Nat → Nat) (qu : Nat → Nat) (qx : Nat → Nat) (qd : Nat → Nat) (s9 : SS) (b : BS) (kk : Int32) (a1 : Int64) (hI : gD (fun _ => True) (sAd qs ++ bAd qb ++ kAd qk)) (hok : kX11_mixMicrophones s9 b kk a1) : Met l yX11_mixMicrophones wsX11_mixMicrophones rX11_mixMicrophones (cP (dC, dI) (tYS cI cB cO cL) (sw qs cI s9 ++ bw qb cI b ++ kw qk qb qr qe qs qu qx qd cI kk) [.ref (qk 0), .long a1]) (gQl (dC, dI) (fun z9 : SS × BS × Int32 => sw qs cI z9.1 ++ bw qb cI z9.2.1 ++ kw qk qb qr qe qs qu qx qd cI z9.2.2) (wA (sw qs cI s9 ++ bw qb cI b ++ kw qk qb qr qe qs qu qx qd cI kk)) (pX11_mixMicrophones s9 b kk a1)) 0 0 (wA (sw qs cI s9 ++ bw qb cI b ++ kw qk qb qr qe qs qu qx qd cI kk)) := by
  refine cMet (cc := cX11_mixMicrophones) (maxL := 8) (ret := some .long) [(0, .ref (qk 0)), (1, .long a1)] (by decide) rfl rfl rfl ?_
  intro p e s mi below meth c C0 hK hE hP ls hl
  obtain ⟨hx, hb, hr, hml, hown, hts, hlocks⟩ := id C0
  have hown : s.vm.findClass RX11 = some mi.cls := hown
  have hS : va_S (wA (sw qs cI s9 ++ bw qb cI b ++ kw qk qb qr qe qs qu qx qd cI kk)) s.heap s.heap [] := va_S.rf
  have hD : gD (wA (sw qs cI s9 ++ bw qb cI b ++ kw qk qb qr qe qs qu qx qd cI kk)) (sAd qs ++ bAd qb ++ kAd qk) := gD_wA (ws := sw qs cI s9 ++ bw qb cI b ++ kw qk qb qr qe qs qu qx qd cI kk) hI
  have hP : va_P (dC, dI) vwCl (sw qs cI s9 ++ bw qb cI b ++ kw qk qb qr qe qs qu qx qd cI kk) s.heap := hP
  obtain ⟨F, hF⟩ : ∃ F, F = pX11_mixMicrophones s9 b kk a1 := ⟨_, rfl⟩
  have hf := hF
  have hin11 : ∀ w ∈ u_ws RX11 TX11 8, w ∈ wsX11_mixMicrophones := by decide +kernel
  have hin2 : ∀ w ∈ u_ws RX2 TX2 8, w ∈ wsX11_mixMicrophones := by decide +kernel
  have hin9 : ∀ w ∈ u_ws RX9 TX9 4, w ∈ wsX11_mixMicrophones := by decide +kernel
  have fl10 := hts (.fieldLink RX11 10 "ClickBench" "bench" "LClickBench$Bench;") (by decide +kernel)
  have fl82 := hts (.fieldLink RX11 82 "ClickBench$Bench" "microphones" "LClickBench$Table;") (by decide +kernel)
  have fl131 := hts (.fieldLink RX11 131 "ClickBench$Table" "count" "I") (by decide +kernel)
  have fl33 := hts (.fieldLink RX11 33 "ClickBench" "survey" "LClickBench$Survey;") (by decide +kernel)
  have J_14 : ∀ (n_14 : Nat) (v4_14 : Int64) (v6_14 : Int32) (s9_14 : SS) (b_14 : BS) (kk_14 : Int32) (H : Heap) (locs : List Loc), va_P (dC, dI) vwCl (sw qs cI s9_14 ++ bw qb cI b_14 ++ kw qk qb qr qe qs qu qx qd cI kk_14) H → va_S (wA (sw qs cI s9 ++ bw qb cI b ++ kw qk qb qr qe qs qu qx qd cI kk)) s.heap H locs → ∀ ls : Array Slot, lv_has ls 8 [(0, .ref (qk 0)), (3, .ref (qb 1)), (4, .long v4_14), (6, .int v6_14)] → F = pX11_mixMicrophones_L14 n_14 v4_14 v6_14 s9_14 b_14 kk_14 → kX11_mixMicrophones_L14 n_14 v4_14 v6_14 s9_14 b_14 kk_14 → W p l e rX11_mixMicrophones s mi ([.ref (qk 0), .long a1] : List Value).toArray below meth c H locs 0 0 (MQ below (gQl (dC, dI) (fun z9 : SS × BS × Int32 => sw qs cI z9.1 ++ bw qb cI z9.2.1 ++ kw qk qb qr qe qs qu qx qd cI z9.2.2) (wA (sw qs cI s9 ++ bw qb cI b ++ kw qk qb qr qe qs qu qx qd cI kk)) (pX11_mixMicrophones s9 b kk a1)) ([.ref (qk 0), .long a1] : List Value).toArray s 0 0 (wA (sw qs cI s9 ++ bw qb cI b ++ kw qk qb qr qe qs qu qx qd cI kk))) (F0 mi 14 ls []) := by
    intro n_14
    induction n_14 with
    | zero =>
      intro v4_14 v6_14 s9_14 b_14 kk_14 H locs hP hS ls hl hf hok
      exact absurd hok (fun h => h)
    | succ n_14 ih_14 =>
      have J_26 : ∀ (n_26 : Nat) (v4_26 : Int64) (v6_26 : Int32) (v7_26 : Int32) (s9_26 : SS) (b_26 : BS) (kk_26 : Int32) (H : Heap) (locs : List Loc), va_P (dC, dI) vwCl (sw qs cI s9_26 ++ bw qb cI b_26 ++ kw qk qb qr qe qs qu qx qd cI kk_26) H → va_S (wA (sw qs cI s9 ++ bw qb cI b ++ kw qk qb qr qe qs qu qx qd cI kk)) s.heap H locs → ∀ ls : Array Slot, lv_has ls 8 [(0, .ref (qk 0)), (3, .ref (qb 1)), (4, .long v4_26), (6, .int v6_26), (7, .int v7_26)] → F = pX11_mixMicrophones_L26 (pX11_mixMicrophones_L14 n_14) n_26 v4_26 v6_26 v7_26 s9_26 b_26 kk_26 → kX11_mixMicrophones_L26 (kX11_mixMicrophones_L14 n_14) n_26 v4_26 v6_26 v7_26 s9_26 b_26 kk_26 → W p l e rX11_mixMicrophones s mi ([.ref (qk 0), .long a1] : List Value).toArray below meth c H locs 0 0 (MQ below (gQl (dC, dI) (fun z9 : SS × BS × Int32 => sw qs cI z9.1 ++ bw qb cI z9.2.1 ++ kw qk qb qr qe qs qu qx qd cI z9.2.2) (wA (sw qs cI s9 ++ bw qb cI b ++ kw qk qb qr qe qs qu qx qd cI kk)) (pX11_mixMicrophones s9 b kk a1)) ([.ref (qk 0), .long a1] : List Value).toArray s 0 0 (wA (sw qs cI s9 ++ bw qb cI b ++ kw qk qb qr qe qs qu qx qd cI kk))) (F0 mi 26 ls []) := by
        intro n_26
        induction n_26 with
        | zero =>
          intro v4_26 v6_26 v7_26 s9_26 b_26 kk_26 H locs hP hS ls hl hf hok
          exact absurd hok (fun h => h)
        | succ n_26 ih_26 =>
          intro v4_26 v6_26 v7_26 s9_26 b_26 kk_26 H locs hP hS ls hl hf hok
          have hf : F = bX11_mixMicrophones_L26 (pX11_mixMicrophones_L14 n_14) (pX11_mixMicrophones_L26 (pX11_mixMicrophones_L14 n_14) n_26) v4_26 v6_26 v7_26 s9_26 b_26 kk_26 := hf
          have hok : kbX11_mixMicrophones_L26 (kX11_mixMicrophones_L14 n_14) (kX11_mixMicrophones_L26 (kX11_mixMicrophones_L14 n_14) n_26) v4_26 v6_26 v7_26 s9_26 b_26 kk_26 := hok
          refine lv_iload hx hb dX11_mixMicrophones_26 (lv_at hl 4 rfl) ?_
          refine lv_bipush (v := 9) hx hb dX11_mixMicrophones_28 (by decide) ?_
          refine lv_icmp_ge (tgt := 55) hx hb dX11_mixMicrophones_30 (by decide) (fun c2 => ?_) (fun c2 => ?_)
          · have hf := it_eq c2 hf
            have hok := it_ok c2 hok
            refine lv_lload hx hb dX11_mixMicrophones_55 (lv_at hl 2 rfl) ?_
            refine lv_aload_n hx hb dX11_mixMicrophones_57 rfl (lv_at hl 0 rfl) ?_
            refine va_get (D := (dC, dI)) (ci := 8) (v := .ref (qs 0)) (C := RX11) (T := TX11) (N := 8) hx hb hts hin11 hown hK hP 14 rfl rfl 3 (by decide) fl33 (fun _ h9 => h9) rfl dX11_mixMicrophones_58 ?_
            refine lv_aload_n hx hb dX11_mixMicrophones_61 rfl (lv_at hl 0 rfl) ?_
            refine va_get (D := (dC, dI)) (ci := 8) (v := .ref (qb 0)) (C := RX11) (T := TX11) (N := 8) hx hb hts hin11 hown hK hP 14 rfl rfl 0 (by decide) fl10 (fun _ h9 => h9) rfl dX11_mixMicrophones_62 ?_
            refine lv_iload hx hb dX11_mixMicrophones_65 (lv_at hl 3 rfl) ?_
            obtain ⟨h3, hok⟩ := hok
            have hPc := hP.sub (ws' := sw qs cI s9_26 ++ bw qb cI b_26) [0, 1, 2, 3, 4, 5, 6, 7, 8, 9, 10, 11, 12, 13] rfl
            refine gmu_i (va_runV (As := [.ref (qb 0), .int v6_26]) (rest := [.long v4_26]) ⟨hx, hb, hml, hown, hts⟩ (mX8_blameOf l dC dI cI cB cO cL qs qb s9_26 b_26 v6_26 (gD_subT hD [0, 1, 2, 3, 4, 5, 6, 7, 8, 9, 10, 11, 12, 13] rfl rfl) h3) (cwV 2 hts gX11_mixMicrophones_X8_blameOf rfl rfl rfl (by decide +kernel) ⟨Nat.le_of_ble_eq_true rfl, Nat.le_of_ble_eq_true rfl⟩) ⟨cP_blind, va_recv hK hPc (ci := 5) (q0 := 0) rfl rfl, cP_ok hPc hK hE⟩ rfl rfl hl.1 rfl (lv_room (Nat.le_of_ble_eq_true rfl)) dX11_mixMicrophones_67 ⟨Nat.zero_le _, Nat.zero_le _⟩) hP (gD_va hD rfl) hS [0, 1, 2, 3, 4, 5, 6, 7, 8, 9, 10, 11, 12, 13] rfl (fun _ => rfl) (fun r4 u5 H locs hw hP hS => ?_)
            have hP : va_P (dC, dI) vwCl (sw qs cI u5.1 ++ bw qb cI u5.2 ++ kw qk qb qr qe qs qu qx qd cI kk_26) H := hP
            have hf := bd_eq hw hf
            have hok := bd_ok hw hok
            refine lv_i2l hx hb dX11_mixMicrophones_70 rfl ?_
            refine gro_l (va_runS (As := [.long v4_26, .long r4.toInt64]) (rest := []) ⟨hx, hb, hml, hown, hts⟩ (mX11_mix l dC dI cI cB cO cL  v4_26 r4.toInt64  ) (va_cwS 2 hts gX11_mixMicrophones_X11_mix rfl rfl rfl (by decide +kernel) ⟨Nat.le_of_ble_eq_true rfl, Nat.le_of_ble_eq_true rfl⟩) ⟨cP_blind, cP_ok va_P_nil hK hE⟩ rfl rfl hl.1 rfl (lv_room (Nat.le_of_ble_eq_true rfl)) dX11_mixMicrophones_71 ⟨Nat.zero_le _, Nat.zero_le _⟩) ?_
            refine lv_topl (fun x6 ex6 => ?_)
            have hf := lt_eq ex6 hf
            have hok := lt_ok ex6 hok
            refine lv_lstore (lv' := [(4, .long x6), (0, .ref (qk 0)), (3, .ref (qb 1)), (6, .int v6_26), (7, .int v7_26)]) hx hb dX11_mixMicrophones_74 hl (by decide) rfl (fun ls hl => ?_)
            obtain ⟨x7, ex7⟩ : ∃ y : Int32, y = v6_26 + 1 := ⟨_, rfl⟩
            refine lv_iinc (v := x7) (lv' := [(6, .int x7), (4, .long x6), (0, .ref (qk 0)), (3, .ref (qb 1)), (7, .int v7_26)]) hx hb dX11_mixMicrophones_76 hl (k := 3) rfl (by rw [ex7]; rfl) (by decide) rfl (fun ls hl => ?_)
            have hf := lt_eq ex7 hf
            have hok := lt_ok ex7 hok
            refine lv_goto (tgt := 14) hx hb dX11_mixMicrophones_79 (by decide) ?_
            exact ih_14 x6 x7 u5.1 u5.2 kk_26 _ _ hP hS _ (lv_sub hl [2, 3, 1, 0] rfl) hf hok
          · have hf := ie_eq c2 hf
            have hok := ie_ok c2 hok
            refine lv_lload hx hb dX11_mixMicrophones_33 (lv_at hl 2 rfl) ?_
            refine lv_aload_n hx hb dX11_mixMicrophones_35 rfl (lv_at hl 1 rfl) ?_
            refine lv_iload hx hb dX11_mixMicrophones_36 (lv_at hl 3 rfl) ?_
            refine lv_iload hx hb dX11_mixMicrophones_38 (lv_at hl 4 rfl) ?_
            obtain ⟨h8, hok⟩ := hok
            have hPc := hP.sub (ws' := tw (tad (qb 1) (qb 2)) cI 8 9 72 (b_26.1 4, b_26.2 0)) [6, 7] rfl
            refine gro_i (va_runV (As := [.int v6_26, .int v7_26]) (rest := [.long v4_26]) ⟨hx, hb, hml, hown, hts⟩ (mX9_at l dC dI cI cB cO cL (tad (qb 1) (qb 2)) 8 9 72 (b_26.1 4, b_26.2 0) v6_26 v7_26  h8) (cwV 2 hts gX11_mixMicrophones_X9_at rfl rfl rfl (by decide +kernel) ⟨Nat.le_of_ble_eq_true rfl, Nat.le_of_ble_eq_true rfl⟩) ⟨cP_blind, va_recv hK hPc (ci := 6) (q0 := 0) rfl rfl, cP_ok hPc hK hE⟩ rfl rfl hl.1 rfl (lv_room (Nat.le_of_ble_eq_true rfl)) dX11_mixMicrophones_40 ⟨Nat.zero_le _, Nat.zero_le _⟩) ?_
            refine lv_i2l hx hb dX11_mixMicrophones_43 rfl ?_
            refine gro_l (va_runS (As := [.long v4_26, .long ((pX9_at 8 9 72 (b_26.1 4, b_26.2 0) v6_26 v7_26).toInt64)]) (rest := []) ⟨hx, hb, hml, hown, hts⟩ (mX11_mix l dC dI cI cB cO cL  v4_26 ((pX9_at 8 9 72 (b_26.1 4, b_26.2 0) v6_26 v7_26).toInt64)  ) (va_cwS 2 hts gX11_mixMicrophones_X11_mix rfl rfl rfl (by decide +kernel) ⟨Nat.le_of_ble_eq_true rfl, Nat.le_of_ble_eq_true rfl⟩) ⟨cP_blind, cP_ok va_P_nil hK hE⟩ rfl rfl hl.1 rfl (lv_room (Nat.le_of_ble_eq_true rfl)) dX11_mixMicrophones_44 ⟨Nat.zero_le _, Nat.zero_le _⟩) ?_
            refine lv_topl (fun x9 ex9 => ?_)
            have hf := lt_eq ex9 hf
            have hok := lt_ok ex9 hok
            refine lv_lstore (lv' := [(4, .long x9), (0, .ref (qk 0)), (3, .ref (qb 1)), (6, .int v6_26), (7, .int v7_26)]) hx hb dX11_mixMicrophones_47 hl (by decide) rfl (fun ls hl => ?_)
            obtain ⟨x10, ex10⟩ : ∃ y : Int32, y = v7_26 + 1 := ⟨_, rfl⟩
            refine lv_iinc (v := x10) (lv' := [(7, .int x10), (4, .long x9), (0, .ref (qk 0)), (3, .ref (qb 1)), (6, .int v6_26)]) hx hb dX11_mixMicrophones_49 hl (k := 4) rfl (by rw [ex10]; rfl) (by decide) rfl (fun ls hl => ?_)
            have hf := lt_eq ex10 hf
            have hok := lt_ok ex10 hok
            refine lv_goto (tgt := 26) hx hb dX11_mixMicrophones_52 (by decide) ?_
            exact ih_26 x9 v6_26 x10 s9_26 b_26 kk_26 _ _ hP hS _ (lv_sub hl [2, 3, 1, 4, 0] rfl) hf hok
      intro v4_14 v6_14 s9_14 b_14 kk_14 H locs hP hS ls hl hf hok
      have hf : F = bX11_mixMicrophones_L14 (pX11_mixMicrophones_L14 n_14) v4_14 v6_14 s9_14 b_14 kk_14 := hf
      have hok : kbX11_mixMicrophones_L14 (kX11_mixMicrophones_L14 n_14) v4_14 v6_14 s9_14 b_14 kk_14 := hok
      refine lv_iload hx hb dX11_mixMicrophones_14 (lv_at hl 3 rfl) ?_
      refine lv_aload_n hx hb dX11_mixMicrophones_16 rfl (lv_at hl 1 rfl) ?_
      refine va_get (D := (dC, dI)) (ci := 6) (v := .int (b_14.1 4)) (C := RX9) (T := TX9) (N := 4) hx hb hts hin9 hown hK hP 6 rfl rfl 3 (by decide) fl131 (fun _ h9 => h9) rfl dX11_mixMicrophones_17 ?_
      refine lv_icmp_ge (tgt := 82) hx hb dX11_mixMicrophones_20 (by decide) (fun c1 => ?_) (fun c1 => ?_)
      · have hf := it_eq c1 hf
        refine lv_lload hx hb dX11_mixMicrophones_82 (lv_at hl 2 rfl) ?_
        exact e_ml C0 (hf.symm.trans hF) hP hS dX11_mixMicrophones_84
      · have hf := ie_eq c1 hf
        have hok := ie_ok c1 hok
        refine lv_iconst (v := 0) hx hb dX11_mixMicrophones_23 (by decide) ?_
        refine lv_istore (lv' := [(7, .int 0), (0, .ref (qk 0)), (3, .ref (qb 1)), (4, .long v4_14), (6, .int v6_14)]) hx hb dX11_mixMicrophones_24 hl (by decide) rfl (fun ls hl => ?_)
        exact J_26 fu v4_14 v6_14 0 s9_14 b_14 kk_14 _ _ hP hS _ (lv_sub hl [1, 2, 3, 4, 0] rfl) hf hok
  refine lv_aload_n hx hb dX11_mixMicrophones_0 rfl (lv_at hl 0 rfl) ?_
  refine va_get (D := (dC, dI)) (ci := 8) (v := .ref (qb 0)) (C := RX11) (T := TX11) (N := 8) hx hb hts hin11 hown hK hP 14 rfl rfl 0 (by decide) fl10 (fun _ h9 => h9) rfl dX11_mixMicrophones_1 ?_
  refine va_get (D := (dC, dI)) (ci := 1) (v := .ref (qb 1)) (C := RX2) (T := TX2) (N := 8) hx hb hts hin2 hown hK hP 5 rfl rfl 4 (by decide) fl82 (fun _ h9 => h9) rfl dX11_mixMicrophones_4 ?_
  refine lv_astore_n (lv' := [(3, .ref (qb 1)), (0, .ref (qk 0)), (1, .long a1)]) hx hb dX11_mixMicrophones_7 rfl hl (by decide) rfl (fun ls hl => ?_)
  refine lv_lload_n hx hb dX11_mixMicrophones_8 rfl (lv_at hl 2 rfl) ?_
  refine lv_lstore (lv' := [(4, .long a1), (3, .ref (qb 1)), (0, .ref (qk 0)), (1, .long a1)]) hx hb dX11_mixMicrophones_9 hl (by decide) rfl (fun ls hl => ?_)
  refine lv_iconst (v := 0) hx hb dX11_mixMicrophones_11 (by decide) ?_
  refine lv_istore (lv' := [(6, .int 0), (4, .long a1), (3, .ref (qb 1)), (0, .ref (qk 0)), (1, .long a1)]) hx hb dX11_mixMicrophones_12 hl (by decide) rfl (fun ls hl => ?_)
  exact J_14 fu a1 0 s9 b kk _ _ hP hS _ (lv_sub hl [3, 2, 1, 0] rfl) hf hok
abbrev rX11_mixTable : Room := { frames := 1, cells := 0, slots := 0, locals := 23 }
set_option maxHeartbeats 4000000 in
set_option maxRecDepth 100000 in
theorem mX11_mixTable (l : Launch) (dC : Nat → ClassId) (dI : Nat → Nat → Nat) (cI cB cO cL : ClassId) (qb : Nat → Nat) (qk : Nat → Nat) (qr : Nat → Nat) (qe : Nat → Nat) (qs : Nat → Nat) (qu : Nat → Nat) (qx : Nat → Nat) (qd : Nat → Nat) (b : BS) (kk : Int32) (a1 : Int64) (a2 : Int32) (hok : kX11_mixTable b kk a1 a2) : Met l yX11_mixTable wsX11_mixTable rX11_mixTable (cP (dC, dI) (tYS cI cB cO cL) (bw qb cI b ++ kw qk qb qr qe qs qu qx qd cI kk) [.ref (qk 0), .long a1, .int a2]) (gRl (pX11_mixTable b kk a1 a2)) 0 0 (fun _ => False) := by
  refine cMet (cc := cX11_mixTable) (maxL := 9) (ret := some .long) [(0, .ref (qk 0)), (1, .long a1), (3, .int a2)] (by decide) rfl rfl rfl ?_
  intro p e s mi below meth c C0 hK hE hP ls hl
  obtain ⟨hx, hb, hr, hml, hown, hts, hlocks⟩ := id C0
  have hown : s.vm.findClass RX11 = some mi.cls := hown
  obtain ⟨F, hF⟩ : ∃ F, F = pX11_mixTable b kk a1 a2 := ⟨_, rfl⟩
  have hf := hF
  have hin11 : ∀ w ∈ u_ws RX11 TX11 8, w ∈ wsX11_mixTable := by decide +kernel
  have hin9 : ∀ w ∈ u_ws RX9 TX9 4, w ∈ wsX11_mixTable := by decide +kernel
  have fl10 := hts (.fieldLink RX11 10 "ClickBench" "bench" "LClickBench$Bench;") (by decide +kernel)
  have fl131 := hts (.fieldLink RX11 131 "ClickBench$Table" "count" "I") (by decide +kernel)
  have fl326 := hts (.fieldLink RX11 326 "ClickBench$Table" "width" "I") (by decide +kernel)
  have J_16 : ∀ (n_16 : Nat) (v5_16 : Int64) (v7_16 : Int32), ∀ ls : Array Slot, lv_has ls 9 [(4, .ref (qb 1)), (5, .long v5_16), (7, .int v7_16)] → F = pX11_mixTable_L16 b kk n_16 v5_16 v7_16 → kX11_mixTable_L16 b kk n_16 v5_16 v7_16 → W p l e rX11_mixTable s mi ([.ref (qk 0), .long a1, .int a2] : List Value).toArray below meth c s.heap [] 0 0 (MQ below (gRl (pX11_mixTable b kk a1 a2)) ([.ref (qk 0), .long a1, .int a2] : List Value).toArray s 0 0 (fun _ => False)) (F0 mi 16 ls []) := by
    intro n_16
    induction n_16 with
    | zero =>
      intro v5_16 v7_16 ls hl hf hok
      exact absurd hok (fun h => h)
    | succ n_16 ih_16 =>
      have J_29 : ∀ (n_29 : Nat) (v5_29 : Int64) (v7_29 : Int32) (v8_29 : Int32), ∀ ls : Array Slot, lv_has ls 9 [(4, .ref (qb 1)), (5, .long v5_29), (7, .int v7_29), (8, .int v8_29)] → F = pX11_mixTable_L29 b kk (pX11_mixTable_L16 b kk n_16) n_29 v5_29 v7_29 v8_29 → kX11_mixTable_L29 b kk (kX11_mixTable_L16 b kk n_16) n_29 v5_29 v7_29 v8_29 → W p l e rX11_mixTable s mi ([.ref (qk 0), .long a1, .int a2] : List Value).toArray below meth c s.heap [] 0 0 (MQ below (gRl (pX11_mixTable b kk a1 a2)) ([.ref (qk 0), .long a1, .int a2] : List Value).toArray s 0 0 (fun _ => False)) (F0 mi 29 ls []) := by
        intro n_29
        induction n_29 with
        | zero =>
          intro v5_29 v7_29 v8_29 ls hl hf hok
          exact absurd hok (fun h => h)
        | succ n_29 ih_29 =>
          intro v5_29 v7_29 v8_29 ls hl hf hok
          have hf : F = bX11_mixTable_L29 b kk (pX11_mixTable_L16 b kk n_16) (pX11_mixTable_L29 b kk (pX11_mixTable_L16 b kk n_16) n_29) v5_29 v7_29 v8_29 := hf
          have hok : kbX11_mixTable_L29 b kk (kX11_mixTable_L16 b kk n_16) (kX11_mixTable_L29 b kk (kX11_mixTable_L16 b kk n_16) n_29) v5_29 v7_29 v8_29 := hok
          refine lv_iload hx hb dX11_mixTable_29 (lv_at hl 3 rfl) ?_
          refine lv_aload hx hb dX11_mixTable_31 (lv_at hl 0 rfl) ?_
          refine va_get (D := (dC, dI)) (ci := 6) (v := .int 9) (C := RX9) (T := TX9) (N := 4) hx hb hts hin9 hown hK hP 1 rfl rfl 1 (by decide) fl326 (fun _ h9 => h9) rfl dX11_mixTable_33 ?_
          refine lv_icmp_ge (tgt := 62) hx hb dX11_mixTable_36 (by decide) (fun c4 => ?_) (fun c4 => ?_)
          · have hf := it_eq c4 hf
            have hok := it_ok c4 hok
            obtain ⟨x5, ex5⟩ : ∃ y : Int32, y = v7_29 + 1 := ⟨_, rfl⟩
            refine lv_iinc (v := x5) (lv' := [(7, .int x5), (4, .ref (qb 1)), (5, .long v5_29), (8, .int v8_29)]) hx hb dX11_mixTable_62 hl (k := 2) rfl (by rw [ex5]; rfl) (by decide) rfl (fun ls hl => ?_)
            have hf := lt_eq ex5 hf
            have hok := lt_ok ex5 hok
            refine lv_goto (tgt := 16) hx hb dX11_mixTable_65 (by decide) ?_
            exact ih_16 v5_29 x5 _ (lv_sub hl [1, 2, 0] rfl) hf hok
          · have hf := ie_eq c4 hf
            have hok := ie_ok c4 hok
            refine lv_lload hx hb dX11_mixTable_39 (lv_at hl 1 rfl) ?_
            refine lv_aload hx hb dX11_mixTable_41 (lv_at hl 0 rfl) ?_
            refine lv_iload hx hb dX11_mixTable_43 (lv_at hl 2 rfl) ?_
            refine lv_iload hx hb dX11_mixTable_45 (lv_at hl 3 rfl) ?_
            obtain ⟨h6, hok⟩ := hok
            have hPc := hP.sub (ws' := tw (tad (qb 1) (qb 2)) cI 8 9 72 (b.1 4, b.2 0)) [1, 2] rfl
            refine gro_i (va_runV (As := [.int v7_29, .int v8_29]) (rest := [.long v5_29]) ⟨hx, hb, hml, hown, hts⟩ (mX9_at l dC dI cI cB cO cL (tad (qb 1) (qb 2)) 8 9 72 (b.1 4, b.2 0) v7_29 v8_29  h6) (cwV 2 hts gX11_mixTable_X9_at rfl rfl rfl (by decide +kernel) ⟨Nat.le_of_ble_eq_true rfl, Nat.le_of_ble_eq_true rfl⟩) ⟨cP_blind, va_recv hK hPc (ci := 6) (q0 := 0) rfl rfl, cP_ok hPc hK hE⟩ rfl rfl hl.1 rfl (lv_room (Nat.le_of_ble_eq_true rfl)) dX11_mixTable_47 ⟨Nat.zero_le _, Nat.zero_le _⟩) ?_
            refine lv_i2l hx hb dX11_mixTable_50 rfl ?_
            refine gro_l (va_runS (As := [.long v5_29, .long ((pX9_at 8 9 72 (b.1 4, b.2 0) v7_29 v8_29).toInt64)]) (rest := []) ⟨hx, hb, hml, hown, hts⟩ (mX11_mix l dC dI cI cB cO cL  v5_29 ((pX9_at 8 9 72 (b.1 4, b.2 0) v7_29 v8_29).toInt64)  ) (va_cwS 2 hts gX11_mixTable_X11_mix rfl rfl rfl (by decide +kernel) ⟨Nat.le_of_ble_eq_true rfl, Nat.le_of_ble_eq_true rfl⟩) ⟨cP_blind, cP_ok va_P_nil hK hE⟩ rfl rfl hl.1 rfl (lv_room (Nat.le_of_ble_eq_true rfl)) dX11_mixTable_51 ⟨Nat.zero_le _, Nat.zero_le _⟩) ?_
            refine lv_topl (fun x7 ex7 => ?_)
            have hf := lt_eq ex7 hf
            have hok := lt_ok ex7 hok
            refine lv_lstore (lv' := [(5, .long x7), (4, .ref (qb 1)), (7, .int v7_29), (8, .int v8_29)]) hx hb dX11_mixTable_54 hl (by decide) rfl (fun ls hl => ?_)
            obtain ⟨x8, ex8⟩ : ∃ y : Int32, y = v8_29 + 1 := ⟨_, rfl⟩
            refine lv_iinc (v := x8) (lv' := [(8, .int x8), (5, .long x7), (4, .ref (qb 1)), (7, .int v7_29)]) hx hb dX11_mixTable_56 hl (k := 3) rfl (by rw [ex8]; rfl) (by decide) rfl (fun ls hl => ?_)
            have hf := lt_eq ex8 hf
            have hok := lt_ok ex8 hok
            refine lv_goto (tgt := 29) hx hb dX11_mixTable_59 (by decide) ?_
            exact ih_29 x7 v7_29 x8 _ (lv_sub hl [2, 1, 3, 0] rfl) hf hok
      intro v5_16 v7_16 ls hl hf hok
      have hf : F = bX11_mixTable_L16 b kk (pX11_mixTable_L16 b kk n_16) v5_16 v7_16 := hf
      have hok : kbX11_mixTable_L16 b kk (kX11_mixTable_L16 b kk n_16) v5_16 v7_16 := hok
      refine lv_iload hx hb dX11_mixTable_16 (lv_at hl 2 rfl) ?_
      refine lv_aload hx hb dX11_mixTable_18 (lv_at hl 0 rfl) ?_
      refine va_get (D := (dC, dI)) (ci := 6) (v := .int (b.1 4)) (C := RX9) (T := TX9) (N := 4) hx hb hts hin9 hown hK hP 1 rfl rfl 3 (by decide) fl131 (fun _ h9 => h9) rfl dX11_mixTable_20 ?_
      refine lv_icmp_ge (tgt := 68) hx hb dX11_mixTable_23 (by decide) (fun c3 => ?_) (fun c3 => ?_)
      · have hf := it_eq c3 hf
        refine lv_lload hx hb dX11_mixTable_68 (lv_at hl 1 rfl) ?_
        exact e_rl C0 (hf.symm.trans hF) dX11_mixTable_70
      · have hf := ie_eq c3 hf
        have hok := ie_ok c3 hok
        refine lv_iconst (v := 0) hx hb dX11_mixTable_26 (by decide) ?_
        refine lv_istore (lv' := [(8, .int 0), (4, .ref (qb 1)), (5, .long v5_16), (7, .int v7_16)]) hx hb dX11_mixTable_27 hl (by decide) rfl (fun ls hl => ?_)
        exact J_29 fu v5_16 v7_16 0 _ (lv_sub hl [1, 2, 3, 0] rfl) hf hok
  have J_16v1 : ∀ (n_16v1 : Nat) (v5_16v1 : Int64) (v7_16v1 : Int32), ∀ ls : Array Slot, lv_has ls 9 [(4, .ref (qb 3)), (5, .long v5_16v1), (7, .int v7_16v1)] → F = pX11_mixTable_L16v1 b kk n_16v1 v5_16v1 v7_16v1 → kX11_mixTable_L16v1 b kk n_16v1 v5_16v1 v7_16v1 → W p l e rX11_mixTable s mi ([.ref (qk 0), .long a1, .int a2] : List Value).toArray below meth c s.heap [] 0 0 (MQ below (gRl (pX11_mixTable b kk a1 a2)) ([.ref (qk 0), .long a1, .int a2] : List Value).toArray s 0 0 (fun _ => False)) (F0 mi 16 ls []) := by
    intro n_16v1
    induction n_16v1 with
    | zero =>
      intro v5_16v1 v7_16v1 ls hl hf hok
      exact absurd hok (fun h => h)
    | succ n_16v1 ih_16v1 =>
      have J_29v1 : ∀ (n_29v1 : Nat) (v5_29v1 : Int64) (v7_29v1 : Int32) (v8_29v1 : Int32), ∀ ls : Array Slot, lv_has ls 9 [(4, .ref (qb 3)), (5, .long v5_29v1), (7, .int v7_29v1), (8, .int v8_29v1)] → F = pX11_mixTable_L29v1 b kk (pX11_mixTable_L16v1 b kk n_16v1) n_29v1 v5_29v1 v7_29v1 v8_29v1 → kX11_mixTable_L29v1 b kk (kX11_mixTable_L16v1 b kk n_16v1) n_29v1 v5_29v1 v7_29v1 v8_29v1 → W p l e rX11_mixTable s mi ([.ref (qk 0), .long a1, .int a2] : List Value).toArray below meth c s.heap [] 0 0 (MQ below (gRl (pX11_mixTable b kk a1 a2)) ([.ref (qk 0), .long a1, .int a2] : List Value).toArray s 0 0 (fun _ => False)) (F0 mi 29 ls []) := by
        intro n_29v1
        induction n_29v1 with
        | zero =>
          intro v5_29v1 v7_29v1 v8_29v1 ls hl hf hok
          exact absurd hok (fun h => h)
        | succ n_29v1 ih_29v1 =>
          intro v5_29v1 v7_29v1 v8_29v1 ls hl hf hok
          have hf : F = bX11_mixTable_L29v1 b kk (pX11_mixTable_L16v1 b kk n_16v1) (pX11_mixTable_L29v1 b kk (pX11_mixTable_L16v1 b kk n_16v1) n_29v1) v5_29v1 v7_29v1 v8_29v1 := hf
          have hok : kbX11_mixTable_L29v1 b kk (kX11_mixTable_L16v1 b kk n_16v1) (kX11_mixTable_L29v1 b kk (kX11_mixTable_L16v1 b kk n_16v1) n_29v1) v5_29v1 v7_29v1 v8_29v1 := hok
          refine lv_iload hx hb dX11_mixTable_29 (lv_at hl 3 rfl) ?_
          refine lv_aload hx hb dX11_mixTable_31 (lv_at hl 0 rfl) ?_
          refine va_get (D := (dC, dI)) (ci := 6) (v := .int 3) (C := RX9) (T := TX9) (N := 4) hx hb hts hin9 hown hK hP 3 rfl rfl 1 (by decide) fl326 (fun _ h9 => h9) rfl dX11_mixTable_33 ?_
          refine lv_icmp_ge (tgt := 62) hx hb dX11_mixTable_36 (by decide) (fun c11 => ?_) (fun c11 => ?_)
          · have hf := it_eq c11 hf
            have hok := it_ok c11 hok
            obtain ⟨x12, ex12⟩ : ∃ y : Int32, y = v7_29v1 + 1 := ⟨_, rfl⟩
            refine lv_iinc (v := x12) (lv' := [(7, .int x12), (4, .ref (qb 3)), (5, .long v5_29v1), (8, .int v8_29v1)]) hx hb dX11_mixTable_62 hl (k := 2) rfl (by rw [ex12]; rfl) (by decide) rfl (fun ls hl => ?_)
            have hf := lt_eq ex12 hf
            have hok := lt_ok ex12 hok
            refine lv_goto (tgt := 16) hx hb dX11_mixTable_65 (by decide) ?_
            exact ih_16v1 v5_29v1 x12 _ (lv_sub hl [1, 2, 0] rfl) hf hok
          · have hf := ie_eq c11 hf
            have hok := ie_ok c11 hok
            refine lv_lload hx hb dX11_mixTable_39 (lv_at hl 1 rfl) ?_
            refine lv_aload hx hb dX11_mixTable_41 (lv_at hl 0 rfl) ?_
            refine lv_iload hx hb dX11_mixTable_43 (lv_at hl 2 rfl) ?_
            refine lv_iload hx hb dX11_mixTable_45 (lv_at hl 3 rfl) ?_
            obtain ⟨h13, hok⟩ := hok
            have hPc := hP.sub (ws' := tw (tad (qb 3) (qb 4)) cI 4 3 12 (b.1 5, b.2 1)) [3, 4] rfl
            refine gro_i (va_runV (As := [.int v7_29v1, .int v8_29v1]) (rest := [.long v5_29v1]) ⟨hx, hb, hml, hown, hts⟩ (mX9_at l dC dI cI cB cO cL (tad (qb 3) (qb 4)) 4 3 12 (b.1 5, b.2 1) v7_29v1 v8_29v1  h13) (cwV 2 hts gX11_mixTable_X9_at rfl rfl rfl (by decide +kernel) ⟨Nat.le_of_ble_eq_true rfl, Nat.le_of_ble_eq_true rfl⟩) ⟨cP_blind, va_recv hK hPc (ci := 6) (q0 := 0) rfl rfl, cP_ok hPc hK hE⟩ rfl rfl hl.1 rfl (lv_room (Nat.le_of_ble_eq_true rfl)) dX11_mixTable_47 ⟨Nat.zero_le _, Nat.zero_le _⟩) ?_
            refine lv_i2l hx hb dX11_mixTable_50 rfl ?_
            refine gro_l (va_runS (As := [.long v5_29v1, .long ((pX9_at 4 3 12 (b.1 5, b.2 1) v7_29v1 v8_29v1).toInt64)]) (rest := []) ⟨hx, hb, hml, hown, hts⟩ (mX11_mix l dC dI cI cB cO cL  v5_29v1 ((pX9_at 4 3 12 (b.1 5, b.2 1) v7_29v1 v8_29v1).toInt64)  ) (va_cwS 2 hts gX11_mixTable_X11_mix rfl rfl rfl (by decide +kernel) ⟨Nat.le_of_ble_eq_true rfl, Nat.le_of_ble_eq_true rfl⟩) ⟨cP_blind, cP_ok va_P_nil hK hE⟩ rfl rfl hl.1 rfl (lv_room (Nat.le_of_ble_eq_true rfl)) dX11_mixTable_51 ⟨Nat.zero_le _, Nat.zero_le _⟩) ?_
            refine lv_topl (fun x14 ex14 => ?_)
            have hf := lt_eq ex14 hf
            have hok := lt_ok ex14 hok
            refine lv_lstore (lv' := [(5, .long x14), (4, .ref (qb 3)), (7, .int v7_29v1), (8, .int v8_29v1)]) hx hb dX11_mixTable_54 hl (by decide) rfl (fun ls hl => ?_)
            obtain ⟨x15, ex15⟩ : ∃ y : Int32, y = v8_29v1 + 1 := ⟨_, rfl⟩
            refine lv_iinc (v := x15) (lv' := [(8, .int x15), (5, .long x14), (4, .ref (qb 3)), (7, .int v7_29v1)]) hx hb dX11_mixTable_56 hl (k := 3) rfl (by rw [ex15]; rfl) (by decide) rfl (fun ls hl => ?_)
            have hf := lt_eq ex15 hf
            have hok := lt_ok ex15 hok
            refine lv_goto (tgt := 29) hx hb dX11_mixTable_59 (by decide) ?_
            exact ih_29v1 x14 v7_29v1 x15 _ (lv_sub hl [2, 1, 3, 0] rfl) hf hok
      intro v5_16v1 v7_16v1 ls hl hf hok
      have hf : F = bX11_mixTable_L16v1 b kk (pX11_mixTable_L16v1 b kk n_16v1) v5_16v1 v7_16v1 := hf
      have hok : kbX11_mixTable_L16v1 b kk (kX11_mixTable_L16v1 b kk n_16v1) v5_16v1 v7_16v1 := hok
      refine lv_iload hx hb dX11_mixTable_16 (lv_at hl 2 rfl) ?_
      refine lv_aload hx hb dX11_mixTable_18 (lv_at hl 0 rfl) ?_
      refine va_get (D := (dC, dI)) (ci := 6) (v := .int (b.1 5)) (C := RX9) (T := TX9) (N := 4) hx hb hts hin9 hown hK hP 3 rfl rfl 3 (by decide) fl131 (fun _ h9 => h9) rfl dX11_mixTable_20 ?_
      refine lv_icmp_ge (tgt := 68) hx hb dX11_mixTable_23 (by decide) (fun c10 => ?_) (fun c10 => ?_)
      · have hf := it_eq c10 hf
        refine lv_lload hx hb dX11_mixTable_68 (lv_at hl 1 rfl) ?_
        exact e_rl C0 (hf.symm.trans hF) dX11_mixTable_70
      · have hf := ie_eq c10 hf
        have hok := ie_ok c10 hok
        refine lv_iconst (v := 0) hx hb dX11_mixTable_26 (by decide) ?_
        refine lv_istore (lv' := [(8, .int 0), (4, .ref (qb 3)), (5, .long v5_16v1), (7, .int v7_16v1)]) hx hb dX11_mixTable_27 hl (by decide) rfl (fun ls hl => ?_)
        exact J_29v1 fu v5_16v1 v7_16v1 0 _ (lv_sub hl [1, 2, 3, 0] rfl) hf hok
  have J_16v2 : ∀ (n_16v2 : Nat) (v5_16v2 : Int64) (v7_16v2 : Int32), ∀ ls : Array Slot, lv_has ls 9 [(4, .ref (qb 5)), (5, .long v5_16v2), (7, .int v7_16v2)] → F = pX11_mixTable_L16v2 b kk n_16v2 v5_16v2 v7_16v2 → kX11_mixTable_L16v2 b kk n_16v2 v5_16v2 v7_16v2 → W p l e rX11_mixTable s mi ([.ref (qk 0), .long a1, .int a2] : List Value).toArray below meth c s.heap [] 0 0 (MQ below (gRl (pX11_mixTable b kk a1 a2)) ([.ref (qk 0), .long a1, .int a2] : List Value).toArray s 0 0 (fun _ => False)) (F0 mi 16 ls []) := by
    intro n_16v2
    induction n_16v2 with
    | zero =>
      intro v5_16v2 v7_16v2 ls hl hf hok
      exact absurd hok (fun h => h)
    | succ n_16v2 ih_16v2 =>
      have J_29v2 : ∀ (n_29v2 : Nat) (v5_29v2 : Int64) (v7_29v2 : Int32) (v8_29v2 : Int32), ∀ ls : Array Slot, lv_has ls 9 [(4, .ref (qb 5)), (5, .long v5_29v2), (7, .int v7_29v2), (8, .int v8_29v2)] → F = pX11_mixTable_L29v2 b kk (pX11_mixTable_L16v2 b kk n_16v2) n_29v2 v5_29v2 v7_29v2 v8_29v2 → kX11_mixTable_L29v2 b kk (kX11_mixTable_L16v2 b kk n_16v2) n_29v2 v5_29v2 v7_29v2 v8_29v2 → W p l e rX11_mixTable s mi ([.ref (qk 0), .long a1, .int a2] : List Value).toArray below meth c s.heap [] 0 0 (MQ below (gRl (pX11_mixTable b kk a1 a2)) ([.ref (qk 0), .long a1, .int a2] : List Value).toArray s 0 0 (fun _ => False)) (F0 mi 29 ls []) := by
        intro n_29v2
        induction n_29v2 with
        | zero =>
          intro v5_29v2 v7_29v2 v8_29v2 ls hl hf hok
          exact absurd hok (fun h => h)
        | succ n_29v2 ih_29v2 =>
          intro v5_29v2 v7_29v2 v8_29v2 ls hl hf hok
          have hf : F = bX11_mixTable_L29v2 b kk (pX11_mixTable_L16v2 b kk n_16v2) (pX11_mixTable_L29v2 b kk (pX11_mixTable_L16v2 b kk n_16v2) n_29v2) v5_29v2 v7_29v2 v8_29v2 := hf
          have hok : kbX11_mixTable_L29v2 b kk (kX11_mixTable_L16v2 b kk n_16v2) (kX11_mixTable_L29v2 b kk (kX11_mixTable_L16v2 b kk n_16v2) n_29v2) v5_29v2 v7_29v2 v8_29v2 := hok
          refine lv_iload hx hb dX11_mixTable_29 (lv_at hl 3 rfl) ?_
          refine lv_aload hx hb dX11_mixTable_31 (lv_at hl 0 rfl) ?_
          refine va_get (D := (dC, dI)) (ci := 6) (v := .int 4) (C := RX9) (T := TX9) (N := 4) hx hb hts hin9 hown hK hP 5 rfl rfl 1 (by decide) fl326 (fun _ h9 => h9) rfl dX11_mixTable_33 ?_
          refine lv_icmp_ge (tgt := 62) hx hb dX11_mixTable_36 (by decide) (fun c18 => ?_) (fun c18 => ?_)
          · have hf := it_eq c18 hf
            have hok := it_ok c18 hok
            obtain ⟨x19, ex19⟩ : ∃ y : Int32, y = v7_29v2 + 1 := ⟨_, rfl⟩
            refine lv_iinc (v := x19) (lv' := [(7, .int x19), (4, .ref (qb 5)), (5, .long v5_29v2), (8, .int v8_29v2)]) hx hb dX11_mixTable_62 hl (k := 2) rfl (by rw [ex19]; rfl) (by decide) rfl (fun ls hl => ?_)
            have hf := lt_eq ex19 hf
            have hok := lt_ok ex19 hok
            refine lv_goto (tgt := 16) hx hb dX11_mixTable_65 (by decide) ?_
            exact ih_16v2 v5_29v2 x19 _ (lv_sub hl [1, 2, 0] rfl) hf hok
          · have hf := ie_eq c18 hf
            have hok := ie_ok c18 hok
            refine lv_lload hx hb dX11_mixTable_39 (lv_at hl 1 rfl) ?_
            refine lv_aload hx hb dX11_mixTable_41 (lv_at hl 0 rfl) ?_
            refine lv_iload hx hb dX11_mixTable_43 (lv_at hl 2 rfl) ?_
            refine lv_iload hx hb dX11_mixTable_45 (lv_at hl 3 rfl) ?_
            obtain ⟨h20, hok⟩ := hok
            have hPc := hP.sub (ws' := tw (tad (qb 5) (qb 6)) cI 4 4 16 (b.1 6, b.2 2)) [5, 6] rfl
            refine gro_i (va_runV (As := [.int v7_29v2, .int v8_29v2]) (rest := [.long v5_29v2]) ⟨hx, hb, hml, hown, hts⟩ (mX9_at l dC dI cI cB cO cL (tad (qb 5) (qb 6)) 4 4 16 (b.1 6, b.2 2) v7_29v2 v8_29v2  h20) (cwV 2 hts gX11_mixTable_X9_at rfl rfl rfl (by decide +kernel) ⟨Nat.le_of_ble_eq_true rfl, Nat.le_of_ble_eq_true rfl⟩) ⟨cP_blind, va_recv hK hPc (ci := 6) (q0 := 0) rfl rfl, cP_ok hPc hK hE⟩ rfl rfl hl.1 rfl (lv_room (Nat.le_of_ble_eq_true rfl)) dX11_mixTable_47 ⟨Nat.zero_le _, Nat.zero_le _⟩) ?_
            refine lv_i2l hx hb dX11_mixTable_50 rfl ?_
            refine gro_l (va_runS (As := [.long v5_29v2, .long ((pX9_at 4 4 16 (b.1 6, b.2 2) v7_29v2 v8_29v2).toInt64)]) (rest := []) ⟨hx, hb, hml, hown, hts⟩ (mX11_mix l dC dI cI cB cO cL  v5_29v2 ((pX9_at 4 4 16 (b.1 6, b.2 2) v7_29v2 v8_29v2).toInt64)  ) (va_cwS 2 hts gX11_mixTable_X11_mix rfl rfl rfl (by decide +kernel) ⟨Nat.le_of_ble_eq_true rfl, Nat.le_of_ble_eq_true rfl⟩) ⟨cP_blind, cP_ok va_P_nil hK hE⟩ rfl rfl hl.1 rfl (lv_room (Nat.le_of_ble_eq_true rfl)) dX11_mixTable_51 ⟨Nat.zero_le _, Nat.zero_le _⟩) ?_
            refine lv_topl (fun x21 ex21 => ?_)
            have hf := lt_eq ex21 hf
            have hok := lt_ok ex21 hok
            refine lv_lstore (lv' := [(5, .long x21), (4, .ref (qb 5)), (7, .int v7_29v2), (8, .int v8_29v2)]) hx hb dX11_mixTable_54 hl (by decide) rfl (fun ls hl => ?_)
            obtain ⟨x22, ex22⟩ : ∃ y : Int32, y = v8_29v2 + 1 := ⟨_, rfl⟩
            refine lv_iinc (v := x22) (lv' := [(8, .int x22), (5, .long x21), (4, .ref (qb 5)), (7, .int v7_29v2)]) hx hb dX11_mixTable_56 hl (k := 3) rfl (by rw [ex22]; rfl) (by decide) rfl (fun ls hl => ?_)
            have hf := lt_eq ex22 hf
            have hok := lt_ok ex22 hok
            refine lv_goto (tgt := 29) hx hb dX11_mixTable_59 (by decide) ?_
            exact ih_29v2 x21 v7_29v2 x22 _ (lv_sub hl [2, 1, 3, 0] rfl) hf hok
      intro v5_16v2 v7_16v2 ls hl hf hok
      have hf : F = bX11_mixTable_L16v2 b kk (pX11_mixTable_L16v2 b kk n_16v2) v5_16v2 v7_16v2 := hf
      have hok : kbX11_mixTable_L16v2 b kk (kX11_mixTable_L16v2 b kk n_16v2) v5_16v2 v7_16v2 := hok
      refine lv_iload hx hb dX11_mixTable_16 (lv_at hl 2 rfl) ?_
      refine lv_aload hx hb dX11_mixTable_18 (lv_at hl 0 rfl) ?_
      refine va_get (D := (dC, dI)) (ci := 6) (v := .int (b.1 6)) (C := RX9) (T := TX9) (N := 4) hx hb hts hin9 hown hK hP 5 rfl rfl 3 (by decide) fl131 (fun _ h9 => h9) rfl dX11_mixTable_20 ?_
      refine lv_icmp_ge (tgt := 68) hx hb dX11_mixTable_23 (by decide) (fun c17 => ?_) (fun c17 => ?_)
      · have hf := it_eq c17 hf
        refine lv_lload hx hb dX11_mixTable_68 (lv_at hl 1 rfl) ?_
        exact e_rl C0 (hf.symm.trans hF) dX11_mixTable_70
      · have hf := ie_eq c17 hf
        have hok := ie_ok c17 hok
        refine lv_iconst (v := 0) hx hb dX11_mixTable_26 (by decide) ?_
        refine lv_istore (lv' := [(8, .int 0), (4, .ref (qb 5)), (5, .long v5_16v2), (7, .int v7_16v2)]) hx hb dX11_mixTable_27 hl (by decide) rfl (fun ls hl => ?_)
        exact J_29v2 fu v5_16v2 v7_16v2 0 _ (lv_sub hl [1, 2, 3, 0] rfl) hf hok
  have J_16v3 : ∀ (n_16v3 : Nat) (v5_16v3 : Int64) (v7_16v3 : Int32), ∀ ls : Array Slot, lv_has ls 9 [(4, .ref (qb 7)), (5, .long v5_16v3), (7, .int v7_16v3)] → F = pX11_mixTable_L16v3 b kk n_16v3 v5_16v3 v7_16v3 → kX11_mixTable_L16v3 b kk n_16v3 v5_16v3 v7_16v3 → W p l e rX11_mixTable s mi ([.ref (qk 0), .long a1, .int a2] : List Value).toArray below meth c s.heap [] 0 0 (MQ below (gRl (pX11_mixTable b kk a1 a2)) ([.ref (qk 0), .long a1, .int a2] : List Value).toArray s 0 0 (fun _ => False)) (F0 mi 16 ls []) := by
    intro n_16v3
    induction n_16v3 with
    | zero =>
      intro v5_16v3 v7_16v3 ls hl hf hok
      exact absurd hok (fun h => h)
    | succ n_16v3 ih_16v3 =>
      have J_29v3 : ∀ (n_29v3 : Nat) (v5_29v3 : Int64) (v7_29v3 : Int32) (v8_29v3 : Int32), ∀ ls : Array Slot, lv_has ls 9 [(4, .ref (qb 7)), (5, .long v5_29v3), (7, .int v7_29v3), (8, .int v8_29v3)] → F = pX11_mixTable_L29v3 b kk (pX11_mixTable_L16v3 b kk n_16v3) n_29v3 v5_29v3 v7_29v3 v8_29v3 → kX11_mixTable_L29v3 b kk (kX11_mixTable_L16v3 b kk n_16v3) n_29v3 v5_29v3 v7_29v3 v8_29v3 → W p l e rX11_mixTable s mi ([.ref (qk 0), .long a1, .int a2] : List Value).toArray below meth c s.heap [] 0 0 (MQ below (gRl (pX11_mixTable b kk a1 a2)) ([.ref (qk 0), .long a1, .int a2] : List Value).toArray s 0 0 (fun _ => False)) (F0 mi 29 ls []) := by
        intro n_29v3
        induction n_29v3 with
        | zero =>
          intro v5_29v3 v7_29v3 v8_29v3 ls hl hf hok
          exact absurd hok (fun h => h)
        | succ n_29v3 ih_29v3 =>
          intro v5_29v3 v7_29v3 v8_29v3 ls hl hf hok
          have hf : F = bX11_mixTable_L29v3 b kk (pX11_mixTable_L16v3 b kk n_16v3) (pX11_mixTable_L29v3 b kk (pX11_mixTable_L16v3 b kk n_16v3) n_29v3) v5_29v3 v7_29v3 v8_29v3 := hf
          have hok : kbX11_mixTable_L29v3 b kk (kX11_mixTable_L16v3 b kk n_16v3) (kX11_mixTable_L29v3 b kk (kX11_mixTable_L16v3 b kk n_16v3) n_29v3) v5_29v3 v7_29v3 v8_29v3 := hok
          refine lv_iload hx hb dX11_mixTable_29 (lv_at hl 3 rfl) ?_
          refine lv_aload hx hb dX11_mixTable_31 (lv_at hl 0 rfl) ?_
          refine va_get (D := (dC, dI)) (ci := 6) (v := .int 1) (C := RX9) (T := TX9) (N := 4) hx hb hts hin9 hown hK hP 7 rfl rfl 1 (by decide) fl326 (fun _ h9 => h9) rfl dX11_mixTable_33 ?_
          refine lv_icmp_ge (tgt := 62) hx hb dX11_mixTable_36 (by decide) (fun c25 => ?_) (fun c25 => ?_)
          · have hf := it_eq c25 hf
            have hok := it_ok c25 hok
            obtain ⟨x26, ex26⟩ : ∃ y : Int32, y = v7_29v3 + 1 := ⟨_, rfl⟩
            refine lv_iinc (v := x26) (lv' := [(7, .int x26), (4, .ref (qb 7)), (5, .long v5_29v3), (8, .int v8_29v3)]) hx hb dX11_mixTable_62 hl (k := 2) rfl (by rw [ex26]; rfl) (by decide) rfl (fun ls hl => ?_)
            have hf := lt_eq ex26 hf
            have hok := lt_ok ex26 hok
            refine lv_goto (tgt := 16) hx hb dX11_mixTable_65 (by decide) ?_
            exact ih_16v3 v5_29v3 x26 _ (lv_sub hl [1, 2, 0] rfl) hf hok
          · have hf := ie_eq c25 hf
            have hok := ie_ok c25 hok
            refine lv_lload hx hb dX11_mixTable_39 (lv_at hl 1 rfl) ?_
            refine lv_aload hx hb dX11_mixTable_41 (lv_at hl 0 rfl) ?_
            refine lv_iload hx hb dX11_mixTable_43 (lv_at hl 2 rfl) ?_
            refine lv_iload hx hb dX11_mixTable_45 (lv_at hl 3 rfl) ?_
            obtain ⟨h27, hok⟩ := hok
            have hPc := hP.sub (ws' := tw (tad (qb 7) (qb 8)) cI 7 1 7 (b.1 7, b.2 3)) [7, 8] rfl
            refine gro_i (va_runV (As := [.int v7_29v3, .int v8_29v3]) (rest := [.long v5_29v3]) ⟨hx, hb, hml, hown, hts⟩ (mX9_at l dC dI cI cB cO cL (tad (qb 7) (qb 8)) 7 1 7 (b.1 7, b.2 3) v7_29v3 v8_29v3  h27) (cwV 2 hts gX11_mixTable_X9_at rfl rfl rfl (by decide +kernel) ⟨Nat.le_of_ble_eq_true rfl, Nat.le_of_ble_eq_true rfl⟩) ⟨cP_blind, va_recv hK hPc (ci := 6) (q0 := 0) rfl rfl, cP_ok hPc hK hE⟩ rfl rfl hl.1 rfl (lv_room (Nat.le_of_ble_eq_true rfl)) dX11_mixTable_47 ⟨Nat.zero_le _, Nat.zero_le _⟩) ?_
            refine lv_i2l hx hb dX11_mixTable_50 rfl ?_
            refine gro_l (va_runS (As := [.long v5_29v3, .long ((pX9_at 7 1 7 (b.1 7, b.2 3) v7_29v3 v8_29v3).toInt64)]) (rest := []) ⟨hx, hb, hml, hown, hts⟩ (mX11_mix l dC dI cI cB cO cL  v5_29v3 ((pX9_at 7 1 7 (b.1 7, b.2 3) v7_29v3 v8_29v3).toInt64)  ) (va_cwS 2 hts gX11_mixTable_X11_mix rfl rfl rfl (by decide +kernel) ⟨Nat.le_of_ble_eq_true rfl, Nat.le_of_ble_eq_true rfl⟩) ⟨cP_blind, cP_ok va_P_nil hK hE⟩ rfl rfl hl.1 rfl (lv_room (Nat.le_of_ble_eq_true rfl)) dX11_mixTable_51 ⟨Nat.zero_le _, Nat.zero_le _⟩) ?_
            refine lv_topl (fun x28 ex28 => ?_)
            have hf := lt_eq ex28 hf
            have hok := lt_ok ex28 hok
            refine lv_lstore (lv' := [(5, .long x28), (4, .ref (qb 7)), (7, .int v7_29v3), (8, .int v8_29v3)]) hx hb dX11_mixTable_54 hl (by decide) rfl (fun ls hl => ?_)
            obtain ⟨x29, ex29⟩ : ∃ y : Int32, y = v8_29v3 + 1 := ⟨_, rfl⟩
            refine lv_iinc (v := x29) (lv' := [(8, .int x29), (5, .long x28), (4, .ref (qb 7)), (7, .int v7_29v3)]) hx hb dX11_mixTable_56 hl (k := 3) rfl (by rw [ex29]; rfl) (by decide) rfl (fun ls hl => ?_)
            have hf := lt_eq ex29 hf
            have hok := lt_ok ex29 hok
            refine lv_goto (tgt := 29) hx hb dX11_mixTable_59 (by decide) ?_
            exact ih_29v3 x28 v7_29v3 x29 _ (lv_sub hl [2, 1, 3, 0] rfl) hf hok
      intro v5_16v3 v7_16v3 ls hl hf hok
      have hf : F = bX11_mixTable_L16v3 b kk (pX11_mixTable_L16v3 b kk n_16v3) v5_16v3 v7_16v3 := hf
      have hok : kbX11_mixTable_L16v3 b kk (kX11_mixTable_L16v3 b kk n_16v3) v5_16v3 v7_16v3 := hok
      refine lv_iload hx hb dX11_mixTable_16 (lv_at hl 2 rfl) ?_
      refine lv_aload hx hb dX11_mixTable_18 (lv_at hl 0 rfl) ?_
      refine va_get (D := (dC, dI)) (ci := 6) (v := .int (b.1 7)) (C := RX9) (T := TX9) (N := 4) hx hb hts hin9 hown hK hP 7 rfl rfl 3 (by decide) fl131 (fun _ h9 => h9) rfl dX11_mixTable_20 ?_
      refine lv_icmp_ge (tgt := 68) hx hb dX11_mixTable_23 (by decide) (fun c24 => ?_) (fun c24 => ?_)
      · have hf := it_eq c24 hf
        refine lv_lload hx hb dX11_mixTable_68 (lv_at hl 1 rfl) ?_
        exact e_rl C0 (hf.symm.trans hF) dX11_mixTable_70
      · have hf := ie_eq c24 hf
        have hok := ie_ok c24 hok
        refine lv_iconst (v := 0) hx hb dX11_mixTable_26 (by decide) ?_
        refine lv_istore (lv' := [(8, .int 0), (4, .ref (qb 7)), (5, .long v5_16v3), (7, .int v7_16v3)]) hx hb dX11_mixTable_27 hl (by decide) rfl (fun ls hl => ?_)
        exact J_29v3 fu v5_16v3 v7_16v3 0 _ (lv_sub hl [1, 2, 3, 0] rfl) hf hok
  refine lv_aload_n hx hb dX11_mixTable_0 rfl (lv_at hl 0 rfl) ?_
  refine va_get (D := (dC, dI)) (ci := 8) (v := .ref (qb 0)) (C := RX11) (T := TX11) (N := 8) hx hb hts hin11 hown hK hP 9 rfl rfl 0 (by decide) fl10 (fun _ h9 => h9) rfl dX11_mixTable_1 ?_
  refine lv_iload_n hx hb dX11_mixTable_4 rfl (lv_at hl 2 rfl) ?_
  have hPc := hP.sub (ws' := bw qb cI b) [0, 1, 2, 3, 4, 5, 6, 7, 8] rfl
  refine va_csr (va_Run.run (va_runV (As := [.int a2]) (rest := []) ⟨hx, hb, hml, hown, hts⟩ (mX2_tableOf l dC dI cI cB cO cL qb b a2  ) (cwV 1 hts gX11_mixTable_X2_tableOf rfl rfl rfl (by decide +kernel) ⟨Nat.le_of_ble_eq_true rfl, Nat.le_of_ble_eq_true rfl⟩) ⟨cP_blind, va_recv hK hPc (ci := 1) (q0 := 0) rfl rfl, cP_ok hPc hK hE⟩ rfl rfl hl.1 rfl (lv_room (Nat.le_of_ble_eq_true rfl)) dX11_mixTable_5 ⟨Nat.zero_le _, Nat.zero_le _⟩)) (fun k1 hk1 => ?_)
  by_cases c2 : (pX2_tableOf b a2) = 0
  · have hf := it_eq c2 hf
    have hok := it_ok c2 hok
    obtain rfl : k1 = 0 := hk1.trans c2
    refine lv_astore (lv' := [(4, .ref (qb 1)), (0, .ref (qk 0)), (1, .long a1), (3, .int a2)]) hx hb dX11_mixTable_8 hl (by decide) rfl (fun ls hl => ?_)
    refine lv_lload_n hx hb dX11_mixTable_10 rfl (lv_at hl 2 rfl) ?_
    refine lv_lstore (lv' := [(5, .long a1), (4, .ref (qb 1)), (0, .ref (qk 0)), (1, .long a1), (3, .int a2)]) hx hb dX11_mixTable_11 hl (by decide) rfl (fun ls hl => ?_)
    refine lv_iconst (v := 0) hx hb dX11_mixTable_13 (by decide) ?_
    refine lv_istore (lv' := [(7, .int 0), (5, .long a1), (4, .ref (qb 1)), (0, .ref (qk 0)), (1, .long a1), (3, .int a2)]) hx hb dX11_mixTable_14 hl (by decide) rfl (fun ls hl => ?_)
    exact J_16 fu a1 0 _ (lv_sub hl [2, 1, 0] rfl) hf hok
  · have hf := ie_eq c2 hf
    have hok := ie_ok c2 hok
    by_cases c9 : (pX2_tableOf b a2) = 1
    · have hf := it_eq c9 hf
      have hok := it_ok c9 hok
      obtain rfl : k1 = 1 := hk1.trans c9
      refine lv_astore (lv' := [(4, .ref (qb 3)), (0, .ref (qk 0)), (1, .long a1), (3, .int a2)]) hx hb dX11_mixTable_8 hl (by decide) rfl (fun ls hl => ?_)
      refine lv_lload_n hx hb dX11_mixTable_10 rfl (lv_at hl 2 rfl) ?_
      refine lv_lstore (lv' := [(5, .long a1), (4, .ref (qb 3)), (0, .ref (qk 0)), (1, .long a1), (3, .int a2)]) hx hb dX11_mixTable_11 hl (by decide) rfl (fun ls hl => ?_)
      refine lv_iconst (v := 0) hx hb dX11_mixTable_13 (by decide) ?_
      refine lv_istore (lv' := [(7, .int 0), (5, .long a1), (4, .ref (qb 3)), (0, .ref (qk 0)), (1, .long a1), (3, .int a2)]) hx hb dX11_mixTable_14 hl (by decide) rfl (fun ls hl => ?_)
      exact J_16v1 fu a1 0 _ (lv_sub hl [2, 1, 0] rfl) hf hok
    · have hf := ie_eq c9 hf
      have hok := ie_ok c9 hok
      by_cases c16 : (pX2_tableOf b a2) = 2
      · have hf := it_eq c16 hf
        have hok := it_ok c16 hok
        obtain rfl : k1 = 2 := hk1.trans c16
        refine lv_astore (lv' := [(4, .ref (qb 5)), (0, .ref (qk 0)), (1, .long a1), (3, .int a2)]) hx hb dX11_mixTable_8 hl (by decide) rfl (fun ls hl => ?_)
        refine lv_lload_n hx hb dX11_mixTable_10 rfl (lv_at hl 2 rfl) ?_
        refine lv_lstore (lv' := [(5, .long a1), (4, .ref (qb 5)), (0, .ref (qk 0)), (1, .long a1), (3, .int a2)]) hx hb dX11_mixTable_11 hl (by decide) rfl (fun ls hl => ?_)
        refine lv_iconst (v := 0) hx hb dX11_mixTable_13 (by decide) ?_
        refine lv_istore (lv' := [(7, .int 0), (5, .long a1), (4, .ref (qb 5)), (0, .ref (qk 0)), (1, .long a1), (3, .int a2)]) hx hb dX11_mixTable_14 hl (by decide) rfl (fun ls hl => ?_)
        exact J_16v2 fu a1 0 _ (lv_sub hl [2, 1, 0] rfl) hf hok
      · have hf := ie_eq c16 hf
        have hok := ie_ok c16 hok
        obtain ⟨c23, hok⟩ := hok
        obtain rfl : k1 = 3 := hk1.trans c23
        refine lv_astore (lv' := [(4, .ref (qb 7)), (0, .ref (qk 0)), (1, .long a1), (3, .int a2)]) hx hb dX11_mixTable_8 hl (by decide) rfl (fun ls hl => ?_)
        refine lv_lload_n hx hb dX11_mixTable_10 rfl (lv_at hl 2 rfl) ?_
        refine lv_lstore (lv' := [(5, .long a1), (4, .ref (qb 7)), (0, .ref (qk 0)), (1, .long a1), (3, .int a2)]) hx hb dX11_mixTable_11 hl (by decide) rfl (fun ls hl => ?_)
        refine lv_iconst (v := 0) hx hb dX11_mixTable_13 (by decide) ?_
        refine lv_istore (lv' := [(7, .int 0), (5, .long a1), (4, .ref (qb 7)), (0, .ref (qk 0)), (1, .long a1), (3, .int a2)]) hx hb dX11_mixTable_14 hl (by decide) rfl (fun ls hl => ?_)
        exact J_16v3 fu a1 0 _ (lv_sub hl [2, 1, 0] rfl) hf hok
