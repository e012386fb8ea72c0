abbrev rX11_valueOfWhole : Room := { frames := 2, cells := 0, slots := 0, locals := 43 }
set_option maxHeartbeats 4000000 in
set_option maxRecDepth 100000 in
theorem mX11_valueOfWhole (l : Launch) (dC : Nat → ClassId) (dI : Nat → Nat → Nat) (cI cB cO cL : ClassId) (qs : Nat → Nat) (qb : Nat → Nat) (qk : Nat → Nat) (qr : Nat → Nat) (qe : Nat → Nat) (qu : Nat → Nat) (qx : Nat → Nat) (qd : Nat → Nat) (s9 : SS) (b : BS) (kk : Int32) (a1 : Int32) (hok : kX11_valueOfWhole s9 b kk a1) : Met l yX11_valueOfWhole wsX11_valueOfWhole rX11_valueOfWhole (cP (dC, dI) (tYS cI cB cO cL) (sw qs cI s9 ++ bw qb cI b ++ kw qk qb qr qe qs qu qx qd cI kk) [.ref (qk 0), .int a1]) (gRi (pX11_valueOfWhole s9 b kk a1)) 0 0 (fun _ => False) := by
  refine cMet (cc := cX11_valueOfWhole) (maxL := 2) (ret := some .int) [(0, .ref (qk 0)), (1, .int a1)] (by decide) rfl rfl rfl ?_
  intro p e s mi below meth c C0 hK hE hP ls hl
  obtain ⟨hx, hb, hr, hml, hown, hts, hlocks⟩ := id C0
  have hown : s.vm.findClass RX11 = some mi.cls := hown
  obtain ⟨F, hF⟩ : ∃ F, F = pX11_valueOfWhole s9 b kk a1 := ⟨_, rfl⟩
  have hf := hF
  have hin11 : ∀ w ∈ u_ws RX11 TX11 8, w ∈ wsX11_valueOfWhole := by decide +kernel
  have hin2 : ∀ w ∈ u_ws RX2 TX2 8, w ∈ wsX11_valueOfWhole := by decide +kernel
  have hin9 : ∀ w ∈ u_ws RX9 TX9 4, w ∈ wsX11_valueOfWhole := by decide +kernel
  have hin8 : ∀ w ∈ u_ws RX8 TX8 9, w ∈ wsX11_valueOfWhole := by decide +kernel
  have fl10 := hts (.fieldLink RX11 10 "ClickBench" "bench" "LClickBench$Bench;") (by decide +kernel)
  have fl303 := hts (.fieldLink RX11 303 "ClickBench$Bench" "columns" "I") (by decide +kernel)
  have fl306 := hts (.fieldLink RX11 306 "ClickBench$Bench" "rows" "I") (by decide +kernel)
  have fl82 := hts (.fieldLink RX11 82 "ClickBench$Bench" "microphones" "LClickBench$Table;") (by decide +kernel)
  have fl131 := hts (.fieldLink RX11 131 "ClickBench$Table" "count" "I") (by decide +kernel)
  have fl309 := hts (.fieldLink RX11 309 "ClickBench$Bench" "walls" "LClickBench$Table;") (by decide +kernel)
  have fl312 := hts (.fieldLink RX11 312 "ClickBench$Bench" "screens" "LClickBench$Table;") (by decide +kernel)
  have fl315 := hts (.fieldLink RX11 315 "ClickBench$Bench" "clicks" "I") (by decide +kernel)
  have fl33 := hts (.fieldLink RX11 33 "ClickBench" "survey" "LClickBench$Survey;") (by decide +kernel)
  have fl318 := hts (.fieldLink RX11 318 "ClickBench$Survey" "hearerCount" "I") (by decide +kernel)
  have fl185 := hts (.fieldLink RX11 185 "ClickBench$Survey" "best" "I") (by decide +kernel)
  have fl188 := hts (.fieldLink RX11 188 "ClickBench$Survey" "tiedCells" "I") (by decide +kernel)
  have fl140 := hts (.fieldLink RX11 140 "ClickBench$Bench" "s" "I") (by decide +kernel)
  refine lv_iload_n hx hb dX11_valueOfWhole_0 rfl (lv_at hl 1 rfl) ?_
  by_cases c1 : a1 = 0
  · have hf := it_eq c1 hf
    refine lv_tableIn (tgt := 56) (off := 55) hx hb dX11_valueOfWhole_1 (by rw [c1]; decide) (by rw [c1]; decide) (by rw [c1]; rfl) (by decide) ?_
    refine lv_aload_n hx hb dX11_valueOfWhole_56 rfl (lv_at hl 0 rfl) ?_
    refine va_get (D := (dC, dI)) (ci := 8) (v := .ref (qb 0)) (C := RX11) (T := TX11) (N := 8) hx hb hts hin11 hown hK hP 14 rfl rfl 0 (by decide) fl10 (fun _ h9 => h9) rfl dX11_valueOfWhole_57 ?_
    refine va_get (D := (dC, dI)) (ci := 1) (v := .int (b.1 0)) (C := RX2) (T := TX2) (N := 8) hx hb hts hin2 hown hK hP 5 rfl rfl 0 (by decide) fl303 (fun _ h9 => h9) rfl dX11_valueOfWhole_60 ?_
    exact e_ri C0 (hf.symm.trans hF) dX11_valueOfWhole_63
  · have hf := ie_eq c1 hf
    have hok := ie_ok c1 hok
    by_cases c2 : a1 = 1
    · have hf := it_eq c2 hf
      refine lv_tableIn (tgt := 64) (off := 63) hx hb dX11_valueOfWhole_1 (by rw [c2]; decide) (by rw [c2]; decide) (by rw [c2]; rfl) (by decide) ?_
      refine lv_aload_n hx hb dX11_valueOfWhole_64 rfl (lv_at hl 0 rfl) ?_
      refine va_get (D := (dC, dI)) (ci := 8) (v := .ref (qb 0)) (C := RX11) (T := TX11) (N := 8) hx hb hts hin11 hown hK hP 14 rfl rfl 0 (by decide) fl10 (fun _ h9 => h9) rfl dX11_valueOfWhole_65 ?_
      refine va_get (D := (dC, dI)) (ci := 1) (v := .int (b.1 1)) (C := RX2) (T := TX2) (N := 8) hx hb hts hin2 hown hK hP 5 rfl rfl 1 (by decide) fl306 (fun _ h9 => h9) rfl dX11_valueOfWhole_68 ?_
      exact e_ri C0 (hf.symm.trans hF) dX11_valueOfWhole_71
    · have hf := ie_eq c2 hf
      have hok := ie_ok c2 hok
      by_cases c3 : a1 = 2
      · have hf := it_eq c3 hf
        refine lv_tableIn (tgt := 72) (off := 71) hx hb dX11_valueOfWhole_1 (by rw [c3]; decide) (by rw [c3]; decide) (by rw [c3]; rfl) (by decide) ?_
        refine lv_aload_n hx hb dX11_valueOfWhole_72 rfl (lv_at hl 0 rfl) ?_
        refine va_get (D := (dC, dI)) (ci := 8) (v := .ref (qb 0)) (C := RX11) (T := TX11) (N := 8) hx hb hts hin11 hown hK hP 14 rfl rfl 0 (by decide) fl10 (fun _ h9 => h9) rfl dX11_valueOfWhole_73 ?_
        refine va_get (D := (dC, dI)) (ci := 1) (v := .ref (qb 1)) (C := RX2) (T := TX2) (N := 8) hx hb hts hin2 hown hK hP 5 rfl rfl 4 (by decide) fl82 (fun _ h9 => h9) rfl dX11_valueOfWhole_76 ?_
        refine va_get (D := (dC, dI)) (ci := 6) (v := .int (b.1 4)) (C := RX9) (T := TX9) (N := 4) hx hb hts hin9 hown hK hP 6 rfl rfl 3 (by decide) fl131 (fun _ h9 => h9) rfl dX11_valueOfWhole_79 ?_
        exact e_ri C0 (hf.symm.trans hF) dX11_valueOfWhole_82
      · have hf := ie_eq c3 hf
        have hok := ie_ok c3 hok
        by_cases c4 : a1 = 3
        · have hf := it_eq c4 hf
          refine lv_tableIn (tgt := 83) (off := 82) hx hb dX11_valueOfWhole_1 (by rw [c4]; decide) (by rw [c4]; decide) (by rw [c4]; rfl) (by decide) ?_
          refine lv_aload_n hx hb dX11_valueOfWhole_83 rfl (lv_at hl 0 rfl) ?_
          refine va_get (D := (dC, dI)) (ci := 8) (v := .ref (qb 0)) (C := RX11) (T := TX11) (N := 8) hx hb hts hin11 hown hK hP 14 rfl rfl 0 (by decide) fl10 (fun _ h9 => h9) rfl dX11_valueOfWhole_84 ?_
          refine va_get (D := (dC, dI)) (ci := 1) (v := .ref (qb 3)) (C := RX2) (T := TX2) (N := 8) hx hb hts hin2 hown hK hP 5 rfl rfl 5 (by decide) fl309 (fun _ h9 => h9) rfl dX11_valueOfWhole_87 ?_
          refine va_get (D := (dC, dI)) (ci := 6) (v := .int (b.1 5)) (C := RX9) (T := TX9) (N := 4) hx hb hts hin9 hown hK hP 8 rfl rfl 3 (by decide) fl131 (fun _ h9 => h9) rfl dX11_valueOfWhole_90 ?_
          exact e_ri C0 (hf.symm.trans hF) dX11_valueOfWhole_93
        · have hf := ie_eq c4 hf
          have hok := ie_ok c4 hok
          by_cases c5 : a1 = 4
          · have hf := it_eq c5 hf
            refine lv_tableIn (tgt := 94) (off := 93) hx hb dX11_valueOfWhole_1 (by rw [c5]; decide) (by rw [c5]; decide) (by rw [c5]; rfl) (by decide) ?_
            refine lv_aload_n hx hb dX11_valueOfWhole_94 rfl (lv_at hl 0 rfl) ?_
            refine va_get (D := (dC, dI)) (ci := 8) (v := .ref (qb 0)) (C := RX11) (T := TX11) (N := 8) hx hb hts hin11 hown hK hP 14 rfl rfl 0 (by decide) fl10 (fun _ h9 => h9) rfl dX11_valueOfWhole_95 ?_
            refine va_get (D := (dC, dI)) (ci := 1) (v := .ref (qb 5)) (C := RX2) (T := TX2) (N := 8) hx hb hts hin2 hown hK hP 5 rfl rfl 6 (by decide) fl312 (fun _ h9 => h9) rfl dX11_valueOfWhole_98 ?_
            refine va_get (D := (dC, dI)) (ci := 6) (v := .int (b.1 6)) (C := RX9) (T := TX9) (N := 4) hx hb hts hin9 hown hK hP 10 rfl rfl 3 (by decide) fl131 (fun _ h9 => h9) rfl dX11_valueOfWhole_101 ?_
            exact e_ri C0 (hf.symm.trans hF) dX11_valueOfWhole_104
          · have hf := ie_eq c5 hf
            have hok := ie_ok c5 hok
            by_cases c6 : a1 = 5
            · have hf := it_eq c6 hf
              refine lv_tableIn (tgt := 105) (off := 104) hx hb dX11_valueOfWhole_1 (by rw [c6]; decide) (by rw [c6]; decide) (by rw [c6]; rfl) (by decide) ?_
              refine lv_aload_n hx hb dX11_valueOfWhole_105 rfl (lv_at hl 0 rfl) ?_
              refine va_get (D := (dC, dI)) (ci := 8) (v := .ref (qb 0)) (C := RX11) (T := TX11) (N := 8) hx hb hts hin11 hown hK hP 14 rfl rfl 0 (by decide) fl10 (fun _ h9 => h9) rfl dX11_valueOfWhole_106 ?_
              refine va_get (D := (dC, dI)) (ci := 1) (v := .int (b.1 2)) (C := RX2) (T := TX2) (N := 8) hx hb hts hin2 hown hK hP 5 rfl rfl 2 (by decide) fl315 (fun _ h9 => h9) rfl dX11_valueOfWhole_109 ?_
              exact e_ri C0 (hf.symm.trans hF) dX11_valueOfWhole_112
            · have hf := ie_eq c6 hf
              have hok := ie_ok c6 hok
              by_cases c7 : a1 = 6
              · have hf := it_eq c7 hf
                refine lv_tableIn (tgt := 113) (off := 112) hx hb dX11_valueOfWhole_1 (by rw [c7]; decide) (by rw [c7]; decide) (by rw [c7]; rfl) (by decide) ?_
                refine lv_aload_n hx hb dX11_valueOfWhole_113 rfl (lv_at hl 0 rfl) ?_
                refine va_get (D := (dC, dI)) (ci := 8) (v := .ref (qs 0)) (C := RX11) (T := TX11) (N := 8) hx hb hts hin11 hown hK hP 14 rfl rfl 3 (by decide) fl33 (fun _ h9 => h9) rfl dX11_valueOfWhole_114 ?_
                refine va_get (D := (dC, dI)) (ci := 5) (v := .int (s9.1 0)) (C := RX8) (T := TX8) (N := 9) hx hb hts hin8 hown hK hP 0 rfl rfl 4 (by decide) fl318 (fun _ h9 => h9) rfl dX11_valueOfWhole_117 ?_
                exact e_ri C0 (hf.symm.trans hF) dX11_valueOfWhole_120
              · have hf := ie_eq c7 hf
                have hok := ie_ok c7 hok
                by_cases c8 : a1 = 7
                · have hf := it_eq c8 hf
                  refine lv_tableIn (tgt := 121) (off := 120) hx hb dX11_valueOfWhole_1 (by rw [c8]; decide) (by rw [c8]; decide) (by rw [c8]; rfl) (by decide) ?_
                  refine lv_aload_n hx hb dX11_valueOfWhole_121 rfl (lv_at hl 0 rfl) ?_
                  refine va_get (D := (dC, dI)) (ci := 8) (v := .ref (qs 0)) (C := RX11) (T := TX11) (N := 8) hx hb hts hin11 hown hK hP 14 rfl rfl 3 (by decide) fl33 (fun _ h9 => h9) rfl dX11_valueOfWhole_122 ?_
                  have hPc := hP.sub (ws' := sw qs cI s9) [0, 1, 2, 3, 4] rfl
                  refine gro_i (va_runV (As := []) (rest := []) ⟨hx, hb, hml, hown, hts⟩ (mX8_pairCount l dC dI cI cB cO cL qs s9  ) (cwV 0 hts gX11_valueOfWhole_X8_pairCount rfl rfl rfl (by decide +kernel) ⟨Nat.le_of_ble_eq_true rfl, Nat.le_of_ble_eq_true rfl⟩) ⟨cP_blind, va_recv hK hPc (ci := 5) (q0 := 0) rfl rfl, cP_ok hPc hK hE⟩ rfl rfl hl.1 rfl (lv_room (Nat.le_of_ble_eq_true rfl)) dX11_valueOfWhole_125 ⟨Nat.zero_le _, Nat.zero_le _⟩) ?_
                  exact e_ri C0 (hf.symm.trans hF) dX11_valueOfWhole_128
                · have hf := ie_eq c8 hf
                  have hok := ie_ok c8 hok
                  by_cases c9 : a1 = 8
                  · have hf := it_eq c9 hf
                    have hok := it_ok c9 hok
                    refine lv_tableIn (tgt := 129) (off := 128) hx hb dX11_valueOfWhole_1 (by rw [c9]; decide) (by rw [c9]; decide) (by rw [c9]; rfl) (by decide) ?_
                    refine lv_aload_n hx hb dX11_valueOfWhole_129 rfl (lv_at hl 0 rfl) ?_
                    refine va_get (D := (dC, dI)) (ci := 8) (v := .ref (qs 0)) (C := RX11) (T := TX11) (N := 8) hx hb hts hin11 hown hK hP 14 rfl rfl 3 (by decide) fl33 (fun _ h9 => h9) rfl dX11_valueOfWhole_130 ?_
                    refine lv_aload_n hx hb dX11_valueOfWhole_133 rfl (lv_at hl 0 rfl) ?_
                    refine va_get (D := (dC, dI)) (ci := 8) (v := .ref (qs 0)) (C := RX11) (T := TX11) (N := 8) hx hb hts hin11 hown hK hP 14 rfl rfl 3 (by decide) fl33 (fun _ h9 => h9) rfl dX11_valueOfWhole_134 ?_
                    refine va_get (D := (dC, dI)) (ci := 5) (v := .int (s9.1 1)) (C := RX8) (T := TX8) (N := 9) hx hb hts hin8 hown hK hP 0 rfl rfl 5 (by decide) fl185 (fun _ h9 => h9) rfl dX11_valueOfWhole_137 ?_
                    have h10 : kX8_votesOf s9 (s9.1 1) := hok
                    have hPc := hP.sub (ws' := sw qs cI s9) [0, 1, 2, 3, 4] rfl
                    refine gro_i (va_runV (As := [.int (s9.1 1)]) (rest := []) ⟨hx, hb, hml, hown, hts⟩ (mX8_votesOf l dC dI cI cB cO cL qs s9 (s9.1 1)  h10) (cwV 1 hts gX11_valueOfWhole_X8_votesOf rfl rfl rfl (by decide +kernel) ⟨Nat.le_of_ble_eq_true rfl, Nat.le_of_ble_eq_true rfl⟩) ⟨cP_blind, va_recv hK hPc (ci := 5) (q0 := 0) rfl rfl, cP_ok hPc hK hE⟩ rfl rfl hl.1 rfl (lv_room (Nat.le_of_ble_eq_true rfl)) dX11_valueOfWhole_140 ⟨Nat.zero_le _, Nat.zero_le _⟩) ?_
                    exact e_ri C0 (hf.symm.trans hF) dX11_valueOfWhole_143
                  · have hf := ie_eq c9 hf
                    by_cases c11 : a1 = 9
                    · have hf := it_eq c11 hf
                      refine lv_tableIn (tgt := 144) (off := 143) hx hb dX11_valueOfWhole_1 (by rw [c11]; decide) (by rw [c11]; decide) (by rw [c11]; rfl) (by decide) ?_
                      refine lv_aload_n hx hb dX11_valueOfWhole_144 rfl (lv_at hl 0 rfl) ?_
                      refine va_get (D := (dC, dI)) (ci := 8) (v := .ref (qs 0)) (C := RX11) (T := TX11) (N := 8) hx hb hts hin11 hown hK hP 14 rfl rfl 3 (by decide) fl33 (fun _ h9 => h9) rfl dX11_valueOfWhole_145 ?_
                      refine va_get (D := (dC, dI)) (ci := 5) (v := .int (s9.1 2)) (C := RX8) (T := TX8) (N := 9) hx hb hts hin8 hown hK hP 0 rfl rfl 6 (by decide) fl188 (fun _ h9 => h9) rfl dX11_valueOfWhole_148 ?_
                      exact e_ri C0 (hf.symm.trans hF) dX11_valueOfWhole_151
                    · have hf := ie_eq c11 hf
                      refine lv_tableOut (tgt := 152) hx hb dX11_valueOfWhole_1 (by have h0_ := i32_ne (n := 0) rfl c1; have h1_ := i32_ne (n := 1) rfl c2; have h2_ := i32_ne (n := 2) rfl c3; have h3_ := i32_ne (n := 3) rfl c4; have h4_ := i32_ne (n := 4) rfl c5; have h5_ := i32_ne (n := 5) rfl c6; have h6_ := i32_ne (n := 6) rfl c7; have h7_ := i32_ne (n := 7) rfl c8; have h8_ := i32_ne (n := 8) rfl c9; have h9_ := i32_ne (n := 9) rfl c11; omega) (by decide) ?_
                      refine lv_aload_n hx hb dX11_valueOfWhole_152 rfl (lv_at hl 0 rfl) ?_
                      refine va_get (D := (dC, dI)) (ci := 8) (v := .ref (qb 0)) (C := RX11) (T := TX11) (N := 8) hx hb hts hin11 hown hK hP 14 rfl rfl 0 (by decide) fl10 (fun _ h9 => h9) rfl dX11_valueOfWhole_153 ?_
                      refine va_get (D := (dC, dI)) (ci := 1) (v := .int (b.1 3)) (C := RX2) (T := TX2) (N := 8) hx hb hts hin2 hown hK hP 5 rfl rfl 3 (by decide) fl140 (fun _ h9 => h9) rfl dX11_valueOfWhole_156 ?_
                      exact e_ri C0 (hf.symm.trans hF) dX11_valueOfWhole_159
abbrev rX11_found : Room := { frames := 6, cells := 0, slots := 0, locals := 148 }
abbrev rX11_clearCommands : Room := { frames := 1, cells := 0, slots := 0, locals := 21 }
abbrev rX11_stop : Room := { frames := 0, cells := 0, slots := 0, locals := 0 }
abbrev rX11_mixCells : Room := { frames := 2, cells := 0, slots := 0, locals := 43 }
abbrev rX11_suspect : Room := { frames := 6, cells := 0, slots := 0, locals := 148 }
abbrev rX11_middle : Room := { frames := 6, cells := 0, slots := 0, locals := 148 }
abbrev rX11_mixMicrophones : Room := { frames := 5, cells := 0, slots := 0, locals := 123 }
abbrev rX11_mixTable : Room := { frames := 1, cells := 0, slots := 0, locals := 23 }
