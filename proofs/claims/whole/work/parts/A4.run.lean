theorem gpw_0_6 (X X' R1 R2 R3 R4 R5 R6 : va_W) (i : List Nat) (hi : i = List.range' 0 X.length) (h : X.length = X'.length) : gpatch (X ++ R1 ++ R2 ++ R3 ++ R4 ++ R5 ++ R6) i X' = X' ++ R1 ++ R2 ++ R3 ++ R4 ++ R5 ++ R6 := by
  have r := gpatch_block X X' [] (R1 ++ (R2 ++ (R3 ++ (R4 ++ (R5 ++ R6))))) h
  rw [hi]
  simp only [List.append_assoc, List.nil_append, List.append_nil, List.length_nil] at r ⊢
  exact r
noncomputable def bX11_runCommands_L34   (q_34 : Int32 → TS → RS → TS → BS → SS → US → Int32 → (Int32 × TS × RS × TS × BS × SS × US × Int32)) (v2_34 : Int32) (x_34 : TS) (rd_34 : RS) (te_34 : TS) (b_34 : BS) (s9_34 : SS) (u_34 : US) (kk_34 : Int32) : Int32 × TS × RS × TS × BS × SS × US × Int32 := if (rd_34.1 0) ≤ v2_34 then ((rd_34.1 0, x_34, rd_34, te_34, b_34, s9_34, u_34, kk_34)) else (lt (pX4_commandOf rd_34 v2_34) fun (x11 : Option Nat) => lt (pX4_numberOf rd_34 v2_34 0) fun (x13 : Int32) => lt (pX4_numberOf rd_34 v2_34 1) fun (x15 : Int32) => lt (pX4_numberOf rd_34 v2_34 2) fun (x17 : Int32) => lt (pX4_numberOf rd_34 v2_34 3) fun (x19 : Int32) => lt (pX11_refusalOf b_34 kk_34 x11 x13 x15 x17 x19) fun (kk_21 : Int32) => if kk_21 = 0 then (lt (pX11_carryOut te_34 b_34 kk_21 x11 x13 x15 x17 x19) fun (u25 : TS × BS × Int32) => lt (v2_34 + 1) fun (x26 : Int32) => q_34 x26 x_34 rd_34 u25.1 u25.2.1 s9_34 u_34 u25.2.2) else ((v2_34, x_34, rd_34, te_34, b_34, s9_34, u_34, kk_21)))
noncomputable def pX11_runCommands_L34   : Nat → Int32 → TS → RS → TS → BS → SS → US → Int32 → (Int32 × TS × RS × TS × BS × SS × US × Int32)
  | 0 => fun _ x_34 rd_34 te_34 b_34 s9_34 u_34 kk_34 => (0, x_34, rd_34, te_34, b_34, s9_34, u_34, kk_34)
  | n + 1 => bX11_runCommands_L34   (pX11_runCommands_L34   n)
def kbX11_runCommands_L34   (Q_34 : Int32 → TS → RS → TS → BS → SS → US → Int32 → Prop) (v2_34 : Int32) (x_34 : TS) (rd_34 : RS) (te_34 : TS) (b_34 : BS) (s9_34 : SS) (u_34 : US) (kk_34 : Int32) : Prop := if (rd_34.1 0) ≤ v2_34 then (True) else ((kX4_commandOf rd_34 v2_34) ∧ (lt (pX4_commandOf rd_34 v2_34) fun (x11 : Option Nat) => (kX4_numberOf rd_34 v2_34 0) ∧ (lt (pX4_numberOf rd_34 v2_34 0) fun (x13 : Int32) => (kX4_numberOf rd_34 v2_34 1) ∧ (lt (pX4_numberOf rd_34 v2_34 1) fun (x15 : Int32) => (kX4_numberOf rd_34 v2_34 2) ∧ (lt (pX4_numberOf rd_34 v2_34 2) fun (x17 : Int32) => (kX4_numberOf rd_34 v2_34 3) ∧ (lt (pX4_numberOf rd_34 v2_34 3) fun (x19 : Int32) => (kX11_refusalOf b_34 kk_34 x11 x13 x15 x17 x19) ∧ (lt (pX11_refusalOf b_34 kk_34 x11 x13 x15 x17 x19) fun (kk_21 : Int32) => if kk_21 = 0 then ((kX11_carryOut te_34 b_34 kk_21 x11 x13 x15 x17 x19) ∧ (lt (pX11_carryOut te_34 b_34 kk_21 x11 x13 x15 x17 x19) fun (u25 : TS × BS × Int32) => lt (v2_34 + 1) fun (x26 : Int32) => Q_34 x26 x_34 rd_34 u25.1 u25.2.1 s9_34 u_34 u25.2.2)) else (True))))))))
noncomputable def kX11_runCommands_L34   : Nat → Int32 → TS → RS → TS → BS → SS → US → Int32 → Prop
  | 0 => fun _ _ _ _ _ _ _ _ => False
  | n + 1 => kbX11_runCommands_L34   (kX11_runCommands_L34   n)
noncomputable def pX11_runCommands (x : TS) (rd : RS) (te : TS) (b : BS) (s9 : SS) (u : US) (kk : Int32) : Int32 × TS × RS × TS × BS × SS × US × Int32 := bd (pX4_read rd x) fun (r2 : Int32) (u3 : RS × TS) => if r2 = (-1000000000) then (lt (pX11_saveState b s9 u kk) fun (u7 : BS × SS × US × Int32) => lt (0) fun (kk_8 : Int32) => pX11_runCommands_L34 fu 0 u3.2 u3.1 te u7.1 u7.2.1 u7.2.2.1 kk_8) else (((-10) - r2, u3.2, u3.1, te, b, s9, u, kk))
def kX11_runCommands (x : TS) (rd : RS) (te : TS) (b : BS) (s9 : SS) (u : US) (kk : Int32) : Prop := (kX4_read rd x) ∧ (bd (pX4_read rd x) fun (r2 : Int32) (u3 : RS × TS) => if r2 = (-1000000000) then ((kX11_saveState b s9 u kk) ∧ (lt (pX11_saveState b s9 u kk) fun (u7 : BS × SS × US × Int32) => lt (0) fun (kk_8 : Int32) => kX11_runCommands_L34 fu 0 u3.2 u3.1 te u7.1 u7.2.1 u7.2.2.1 kk_8)) else (True))
abbrev rX11_runCommands : Room := { frames := 9, cells := 0, slots := 0, locals := 204 }
set_option maxHeartbeats 4000000 in
set_option maxRecDepth 100000 in
theorem mX11_runCommands (l : Launch) (dC : Nat → ClassId) (dI : Nat → Nat → Nat) (cI cB cO cL : ClassId) (N0 : Nat) (sT eA : Nat → Nat) (qx : Nat → Nat) (qd : Nat → Nat) (qe : Nat → Nat) (qb : Nat → Nat) (qs : Nat → Nat) (qu : Nat → Nat) (qk : Nat → Nat) (qr : Nat → Nat) (x : TS) (rd : RS) (te : TS) (b : BS) (s9 : SS) (u : US) (kk : Int32) (hI : gD (fun _ => True) (xAd qx ++ dAd qd ++ eAd qe ++ bAd qb ++ sAd qs ++ uAd qu ++ kAd qk)) (hN9 : ∀ a ∈ (xAd qx ++ dAd qd ++ eAd qe ++ bAd qb ++ sAd qs ++ uAd qu ++ kAd qk : List Nat), N0 ≤ a) (hok : kX11_runCommands x rd te b s9 u kk) : Met l yX11_runCommands wsX11_runCommands rX11_runCommands (fP N0 sT eA (dC, dI) (tYS cI cB cO cL) (xw qx cI x ++ dw qd cI cO eA rd ++ ew qe cI te ++ bw qb cI b ++ sw qs cI s9 ++ uw qu cI cB u ++ kw qk qb qr qe qs qu qx qd cI kk) [.ref (qk 0)]) (gQi (dC, dI) (fun z9 : TS × RS × TS × BS × SS × US × Int32 => xw qx cI z9.1 ++ dw qd cI cO eA z9.2.1 ++ ew qe cI z9.2.2.1 ++ bw qb cI z9.2.2.2.1 ++ sw qs cI z9.2.2.2.2.1 ++ uw qu cI cB z9.2.2.2.2.2.1 ++ kw qk qb qr qe qs qu qx qd cI z9.2.2.2.2.2.2) (wA (xw qx cI x ++ dw qd cI cO eA rd ++ ew qe cI te ++ bw qb cI b ++ sw qs cI s9 ++ uw qu cI cB u ++ kw qk qb qr qe qs qu qx qd cI kk)) (pX11_runCommands x rd te b s9 u kk)) 0 0 (wA (xw qx cI x ++ dw qd cI cO eA rd ++ ew qe cI te ++ bw qb cI b ++ sw qs cI s9 ++ uw qu cI cB u ++ kw qk qb qr qe qs qu qx qd cI kk)) := by
  refine fMet (cc := cX11_runCommands) (maxL := 8) (ret := some .int) [(0, .ref (qk 0))] (by decide) rfl rfl rfl ?_
  intro p e s mi below meth c C0 hK hF hP ls hl
  obtain ⟨hx, hb, hr, hml, hown, hts, hlocks⟩ := id C0
  have hown : s.vm.findClass RX11 = some mi.cls := hown
  have hE := hF.1
  have hN : ∀ q : Nat, (wA (xw qx cI x ++ dw qd cI cO eA rd ++ ew qe cI te ++ bw qb cI b ++ sw qs cI s9 ++ uw qu cI cB u ++ kw qk qb qr qe qs qu qx qd cI kk)) q → N0 ≤ q := wA_N (ws := xw qx cI x ++ dw qd cI cO eA rd ++ ew qe cI te ++ bw qb cI b ++ sw qs cI s9 ++ uw qu cI cB u ++ kw qk qb qr qe qs qu qx qd cI kk) hN9
  have hH := hF.2.2.narrow hN
  have hS : va_S (wA (xw qx cI x ++ dw qd cI cO eA rd ++ ew qe cI te ++ bw qb cI b ++ sw qs cI s9 ++ uw qu cI cB u ++ kw qk qb qr qe qs qu qx qd cI kk)) s.heap s.heap [] := va_S.rf
  have hD : gD (wA (xw qx cI x ++ dw qd cI cO eA rd ++ ew qe cI te ++ bw qb cI b ++ sw qs cI s9 ++ uw qu cI cB u ++ kw qk qb qr qe qs qu qx qd cI kk)) (xAd qx ++ dAd qd ++ eAd qe ++ bAd qb ++ sAd qs ++ uAd qu ++ kAd qk) := gD_wA (ws := xw qx cI x ++ dw qd cI cO eA rd ++ ew qe cI te ++ bw qb cI b ++ sw qs cI s9 ++ uw qu cI cB u ++ kw qk qb qr qe qs qu qx qd cI kk) hI
  have hP : va_P (dC, dI) vwCl (xw qx cI x ++ dw qd cI cO eA rd ++ ew qe cI te ++ bw qb cI b ++ sw qs cI s9 ++ uw qu cI cB u ++ kw qk qb qr qe qs qu qx qd cI kk) s.heap := hP
  obtain ⟨F, hFe⟩ : ∃ F, F = pX11_runCommands x rd te b s9 u kk := ⟨_, rfl⟩
  have hf := hFe
  have hin11 : ∀ w ∈ u_ws RX11 TX11 8, w ∈ wsX11_runCommands := by decide +kernel
  have hin4 : ∀ w ∈ u_ws RX4 TX4 8, w ∈ wsX11_runCommands := by decide +kernel
  have fl54 := hts (.fieldLink RX11 54 "ClickBench" "reader" "LClickBench$CommandReader;") (by decide +kernel)
  have fl47 := hts (.fieldLink RX11 47 "ClickBench" "text" "LClickBench$CommandText;") (by decide +kernel)
  have cn167 := hts (.constant RX11 167 (-1000000000)) (by decide +kernel)
  have fl58 := hts (.fieldLink RX11 58 "ClickBench" "latestStop" "I") (by decide +kernel)
  have fl227 := hts (.fieldLink RX11 227 "ClickBench$CommandReader" "count" "I") (by decide +kernel)
  have J_34 : ∀ (n_34 : Nat) (v2_34 : Int32) (x_34 : TS) (rd_34 : RS) (te_34 : TS) (b_34 : BS) (s9_34 : SS) (u_34 : US) (kk_34 : Int32) (H : Heap) (locs : List Loc), va_P (dC, dI) vwCl (xw qx cI x_34 ++ dw qd cI cO eA rd_34 ++ ew qe cI te_34 ++ bw qb cI b_34 ++ sw qs cI s9_34 ++ uw qu cI cB u_34 ++ kw qk qb qr qe qs qu qx qd cI kk_34) H → va_S (wA (xw qx cI x ++ dw qd cI cO eA rd ++ ew qe cI te ++ bw qb cI b ++ sw qs cI s9 ++ uw qu cI cB u ++ kw qk qb qr qe qs qu qx qd cI kk)) s.heap H locs → ∀ ls : Array Slot, lv_has ls 8 [(0, .ref (qk 0)), (2, .int v2_34)] → F = pX11_runCommands_L34 n_34 v2_34 x_34 rd_34 te_34 b_34 s9_34 u_34 kk_34 → kX11_runCommands_L34 n_34 v2_34 x_34 rd_34 te_34 b_34 s9_34 u_34 kk_34 → W p l e rX11_runCommands s mi ([.ref (qk 0)] : List Value).toArray below meth c H locs 0 0 (MQ below (gQi (dC, dI) (fun z9 : TS × RS × TS × BS × SS × US × Int32 => xw qx cI z9.1 ++ dw qd cI cO eA z9.2.1 ++ ew qe cI z9.2.2.1 ++ bw qb cI z9.2.2.2.1 ++ sw qs cI z9.2.2.2.2.1 ++ uw qu cI cB z9.2.2.2.2.2.1 ++ kw qk qb qr qe qs qu qx qd cI z9.2.2.2.2.2.2) (wA (xw qx cI x ++ dw qd cI cO eA rd ++ ew qe cI te ++ bw qb cI b ++ sw qs cI s9 ++ uw qu cI cB u ++ kw qk qb qr qe qs qu qx qd cI kk)) (pX11_runCommands x rd te b s9 u kk)) ([.ref (qk 0)] : List Value).toArray s 0 0 (wA (xw qx cI x ++ dw qd cI cO eA rd ++ ew qe cI te ++ bw qb cI b ++ sw qs cI s9 ++ uw qu cI cB u ++ kw qk qb qr qe qs qu qx qd cI kk))) (F0 mi 34 ls []) := by
    intro n_34
    induction n_34 with
    | zero =>
      intro v2_34 x_34 rd_34 te_34 b_34 s9_34 u_34 kk_34 H locs hP hS ls hl hf hok
      exact absurd hok (fun h => h)
    | succ n_34 ih_34 =>
      intro v2_34 x_34 rd_34 te_34 b_34 s9_34 u_34 kk_34 H locs hP hS ls hl hf hok
      have hf : F = bX11_runCommands_L34 (pX11_runCommands_L34 n_34) v2_34 x_34 rd_34 te_34 b_34 s9_34 u_34 kk_34 := hf
      have hok : kbX11_runCommands_L34 (kX11_runCommands_L34 n_34) v2_34 x_34 rd_34 te_34 b_34 s9_34 u_34 kk_34 := hok
      refine lv_iload_n hx hb dX11_runCommands_34 rfl (lv_at hl 1 rfl) ?_
      refine lv_aload_n hx hb dX11_runCommands_35 rfl (lv_at hl 0 rfl) ?_
      refine va_get (D := (dC, dI)) (ci := 8) (v := .ref (qd 0)) (C := RX11) (T := TX11) (N := 8) hx hb hts hin11 hown hK hP 61 rfl rfl 6 (by decide) fl54 (fun _ h9 => h9) rfl dX11_runCommands_36 ?_
      refine va_get (D := (dC, dI)) (ci := 2) (v := .int (rd_34.1 0)) (C := RX4) (T := TX4) (N := 8) hx hb hts hin4 hown hK hP 2 rfl rfl 2 (by decide) fl227 (fun _ h9 => h9) rfl dX11_runCommands_39 ?_
      refine lv_icmp_ge (tgt := 143) hx hb dX11_runCommands_42 (by decide) (fun c9 => ?_) (fun c9 => ?_)
      · have hf := it_eq c9 hf
        refine lv_aload_n hx hb dX11_runCommands_143 rfl (lv_at hl 0 rfl) ?_
        refine va_get (D := (dC, dI)) (ci := 8) (v := .ref (qd 0)) (C := RX11) (T := TX11) (N := 8) hx hb hts hin11 hown hK hP 61 rfl rfl 6 (by decide) fl54 (fun _ h9 => h9) rfl dX11_runCommands_144 ?_
        refine va_get (D := (dC, dI)) (ci := 2) (v := .int (rd_34.1 0)) (C := RX4) (T := TX4) (N := 8) hx hb hts hin4 hown hK hP 2 rfl rfl 2 (by decide) fl227 (fun _ h9 => h9) rfl dX11_runCommands_147 ?_
        exact e_mi C0 (hf.symm.trans hFe) hP hS dX11_runCommands_150
      · have hf := ie_eq c9 hf
        have hok := ie_ok c9 hok
        refine lv_aload_n hx hb dX11_runCommands_45 rfl (lv_at hl 0 rfl) ?_
        refine va_get (D := (dC, dI)) (ci := 8) (v := .ref (qd 0)) (C := RX11) (T := TX11) (N := 8) hx hb hts hin11 hown hK hP 61 rfl rfl 6 (by decide) fl54 (fun _ h9 => h9) rfl dX11_runCommands_46 ?_
        refine lv_iload_n hx hb dX11_runCommands_49 rfl (lv_at hl 1 rfl) ?_
        obtain ⟨h10, hok⟩ := hok
        have hPc := hP.sub (ws' := dw qd cI cO eA rd_34) [2, 3, 4] rfl
        refine gro_e (ad := eA) (va_runV (As := [.int v2_34]) (rest := []) ⟨hx, hb, hml, hown, hts⟩ (mX4_commandOf l dC dI cI cB cO cL N0 sT eA qd rd_34 v2_34  h10) (cwV 1 hts gX11_runCommands_X4_commandOf rfl rfl rfl (by decide +kernel) ⟨Nat.le_of_ble_eq_true rfl, Nat.le_of_ble_eq_true rfl⟩) ⟨fP_blind, va_recv hK hPc (ci := 2) (q0 := 0) rfl rfl, fP_ok hPc hK hF hS hN⟩ rfl rfl hl.1 rfl (lv_room (Nat.le_of_ble_eq_true rfl)) dX11_runCommands_50 ⟨Nat.zero_le _, Nat.zero_le _⟩) ?_
        refine lv_topE (ad := eA) (fun x11 ex11 => ?_)
        have hf := lt_eq ex11 hf
        have hok := lt_ok ex11 hok
        refine lv_astore_nE (ad := eA) (r := x11) (lv' := [(3, va_re eA x11), (0, .ref (qk 0)), (2, .int v2_34)]) hx hb dX11_runCommands_53 rfl hl (by decide) rfl (fun ls hl => ?_)
        refine lv_aload_n hx hb dX11_runCommands_54 rfl (lv_at hl 1 rfl) ?_
        refine va_get (D := (dC, dI)) (ci := 8) (v := .ref (qd 0)) (C := RX11) (T := TX11) (N := 8) hx hb hts hin11 hown hK hP 61 rfl rfl 6 (by decide) fl54 (fun _ h9 => h9) rfl dX11_runCommands_55 ?_
        refine lv_iload_n hx hb dX11_runCommands_58 rfl (lv_at hl 2 rfl) ?_
        refine lv_iconst (v := 0) hx hb dX11_runCommands_59 (by decide) ?_
        obtain ⟨h12, hok⟩ := hok
        have hPc := hP.sub (ws' := dw qd cI cO eA rd_34) [2, 3, 4] rfl
        refine gro_i (va_runV (As := [.int v2_34, .int 0]) (rest := []) ⟨hx, hb, hml, hown, hts⟩ (mX4_numberOf l dC dI cI cB cO cL N0 sT eA qd rd_34 v2_34 0  h12) (cwV 2 hts gX11_runCommands_X4_numberOf rfl rfl rfl (by decide +kernel) ⟨Nat.le_of_ble_eq_true rfl, Nat.le_of_ble_eq_true rfl⟩) ⟨fP_blind, va_recv hK hPc (ci := 2) (q0 := 0) rfl rfl, fP_ok hPc hK hF hS hN⟩ rfl rfl hl.1 rfl (lv_room (Nat.le_of_ble_eq_true rfl)) dX11_runCommands_60 ⟨Nat.zero_le _, Nat.zero_le _⟩) ?_
        refine lv_topi (fun x13 ex13 => ?_)
        have hf := lt_eq ex13 hf
        have hok := lt_ok ex13 hok
        refine lv_istore (lv' := [(4, .int x13), (3, va_re eA x11), (0, .ref (qk 0)), (2, .int v2_34)]) hx hb dX11_runCommands_63 hl (by decide) (by cases x11 <;> rfl) (fun ls hl => ?_)
        refine lv_aload_n hx hb dX11_runCommands_65 rfl (lv_at hl 2 rfl) ?_
        refine va_get (D := (dC, dI)) (ci := 8) (v := .ref (qd 0)) (C := RX11) (T := TX11) (N := 8) hx hb hts hin11 hown hK hP 61 rfl rfl 6 (by decide) fl54 (fun _ h9 => h9) rfl dX11_runCommands_66 ?_
        refine lv_iload_n hx hb dX11_runCommands_69 rfl (lv_at hl 3 rfl) ?_
        refine lv_iconst (v := 1) hx hb dX11_runCommands_70 (by decide) ?_
        obtain ⟨h14, hok⟩ := hok
        have hPc := hP.sub (ws' := dw qd cI cO eA rd_34) [2, 3, 4] rfl
        refine gro_i (va_runV (As := [.int v2_34, .int 1]) (rest := []) ⟨hx, hb, hml, hown, hts⟩ (mX4_numberOf l dC dI cI cB cO cL N0 sT eA qd rd_34 v2_34 1  h14) (cwV 2 hts gX11_runCommands_X4_numberOf rfl rfl rfl (by decide +kernel) ⟨Nat.le_of_ble_eq_true rfl, Nat.le_of_ble_eq_true rfl⟩) ⟨fP_blind, va_recv hK hPc (ci := 2) (q0 := 0) rfl rfl, fP_ok hPc hK hF hS hN⟩ rfl rfl hl.1 rfl (lv_room (Nat.le_of_ble_eq_true rfl)) dX11_runCommands_71 ⟨Nat.zero_le _, Nat.zero_le _⟩) ?_
        refine lv_topi (fun x15 ex15 => ?_)
        have hf := lt_eq ex15 hf
        have hok := lt_ok ex15 hok
        refine lv_istore (lv' := [(5, .int x15), (4, .int x13), (3, va_re eA x11), (0, .ref (qk 0)), (2, .int v2_34)]) hx hb dX11_runCommands_74 hl (by decide) rfl (fun ls hl => ?_)
        refine lv_aload_n hx hb dX11_runCommands_76 rfl (lv_at hl 3 rfl) ?_
        refine va_get (D := (dC, dI)) (ci := 8) (v := .ref (qd 0)) (C := RX11) (T := TX11) (N := 8) hx hb hts hin11 hown hK hP 61 rfl rfl 6 (by decide) fl54 (fun _ h9 => h9) rfl dX11_runCommands_77 ?_
        refine lv_iload_n hx hb dX11_runCommands_80 rfl (lv_at hl 4 rfl) ?_
        refine lv_iconst (v := 2) hx hb dX11_runCommands_81 (by decide) ?_
        obtain ⟨h16, hok⟩ := hok
        have hPc := hP.sub (ws' := dw qd cI cO eA rd_34) [2, 3, 4] rfl
        refine gro_i (va_runV (As := [.int v2_34, .int 2]) (rest := []) ⟨hx, hb, hml, hown, hts⟩ (mX4_numberOf l dC dI cI cB cO cL N0 sT eA qd rd_34 v2_34 2  h16) (cwV 2 hts gX11_runCommands_X4_numberOf rfl rfl rfl (by decide +kernel) ⟨Nat.le_of_ble_eq_true rfl, Nat.le_of_ble_eq_true rfl⟩) ⟨fP_blind, va_recv hK hPc (ci := 2) (q0 := 0) rfl rfl, fP_ok hPc hK hF hS hN⟩ rfl rfl hl.1 rfl (lv_room (Nat.le_of_ble_eq_true rfl)) dX11_runCommands_82 ⟨Nat.zero_le _, Nat.zero_le _⟩) ?_
        refine lv_topi (fun x17 ex17 => ?_)
        have hf := lt_eq ex17 hf
        have hok := lt_ok ex17 hok
        refine lv_istore (lv' := [(6, .int x17), (5, .int x15), (4, .int x13), (3, va_re eA x11), (0, .ref (qk 0)), (2, .int v2_34)]) hx hb dX11_runCommands_85 hl (by decide) rfl (fun ls hl => ?_)
        refine lv_aload_n hx hb dX11_runCommands_87 rfl (lv_at hl 4 rfl) ?_
        refine va_get (D := (dC, dI)) (ci := 8) (v := .ref (qd 0)) (C := RX11) (T := TX11) (N := 8) hx hb hts hin11 hown hK hP 61 rfl rfl 6 (by decide) fl54 (fun _ h9 => h9) rfl dX11_runCommands_88 ?_
        refine lv_iload_n hx hb dX11_runCommands_91 rfl (lv_at hl 5 rfl) ?_
        refine lv_iconst (v := 3) hx hb dX11_runCommands_92 (by decide) ?_
        obtain ⟨h18, hok⟩ := hok
        have hPc := hP.sub (ws' := dw qd cI cO eA rd_34) [2, 3, 4] rfl
        refine gro_i (va_runV (As := [.int v2_34, .int 3]) (rest := []) ⟨hx, hb, hml, hown, hts⟩ (mX4_numberOf l dC dI cI cB cO cL N0 sT eA qd rd_34 v2_34 3  h18) (cwV 2 hts gX11_runCommands_X4_numberOf rfl rfl rfl (by decide +kernel) ⟨Nat.le_of_ble_eq_true rfl, Nat.le_of_ble_eq_true rfl⟩) ⟨fP_blind, va_recv hK hPc (ci := 2) (q0 := 0) rfl rfl, fP_ok hPc hK hF hS hN⟩ rfl rfl hl.1 rfl (lv_room (Nat.le_of_ble_eq_true rfl)) dX11_runCommands_93 ⟨Nat.zero_le _, Nat.zero_le _⟩) ?_
        refine lv_topi (fun x19 ex19 => ?_)
        have hf := lt_eq ex19 hf
        have hok := lt_ok ex19 hok
        refine lv_istore (lv' := [(7, .int x19), (6, .int x17), (5, .int x15), (4, .int x13), (3, va_re eA x11), (0, .ref (qk 0)), (2, .int v2_34)]) hx hb dX11_runCommands_96 hl (by decide) rfl (fun ls hl => ?_)
        refine lv_aload_n hx hb dX11_runCommands_98 rfl (lv_at hl 5 rfl) ?_
        refine lv_aload_n hx hb dX11_runCommands_99 rfl (lv_at hl 5 rfl) ?_
        refine lv_aload_nE (ad := eA) (r := x11) hx hb dX11_runCommands_100 rfl (lv_at hl 4 rfl) ?_
        refine lv_iload hx hb dX11_runCommands_101 (lv_at hl 3 rfl) ?_
        refine lv_iload hx hb dX11_runCommands_103 (lv_at hl 2 rfl) ?_
        refine lv_iload hx hb dX11_runCommands_105 (lv_at hl 1 rfl) ?_
        refine lv_iload hx hb dX11_runCommands_107 (lv_at hl 0 rfl) ?_
        obtain ⟨h20, hok⟩ := hok
        have hPc := hP.sub (ws' := bw qb cI b_34 ++ kw qk qb qr qe qs qu qx qd cI kk_34) [9, 10, 11, 12, 13, 14, 15, 16, 17, 61] rfl
        refine gro_i (va_runV (As := [va_re eA x11, .int x13, .int x15, .int x17, .int x19]) (rest := [.ref (qk 0)]) ⟨hx, hb, hml, hown, hts⟩ (mX11_refusalOf l dC dI cI cB cO cL N0 sT eA qb qk qr qe qs qu qx qd b_34 kk_34 x11 x13 x15 x17 x19  h20) (cwV 5 hts gX11_runCommands_X11_refusalOf rfl rfl rfl (by decide +kernel) ⟨Nat.le_of_ble_eq_true rfl, Nat.le_of_ble_eq_true rfl⟩) ⟨fP_blind, va_recv hK hPc (ci := 8) (q0 := 9) rfl rfl, fP_ok hPc hK hF hS hN⟩ rfl rfl hl.1 rfl (lv_room (Nat.le_of_ble_eq_true rfl)) dX11_runCommands_109 ⟨Nat.zero_le _, Nat.zero_le _⟩) ?_
        refine va_put (D := (dC, dI)) (ci := 8) (v := .int (pX11_refusalOf b_34 kk_34 x11 x13 x15 x17 x19)) (ty := .int) (C := RX11) (T := TX11) (N := 8) hx hb hts hin11 tyX11 tyX11_ok nmX11 hown hK hP (gD_va hD rfl) hS 61 rfl rfl 7 (by decide) fl58 (fun _ h9 => h9) rfl (by decide +kernel) rfl rfl (Nat.le_of_ble_eq_true rfl) dX11_runCommands_112 (fun H locs hP _ hS => ?_)
        obtain ⟨kk_21, ekk_21⟩ : ∃ z9 : Int32, z9 = pX11_refusalOf b_34 kk_34 x11 x13 x15 x17 x19 := ⟨_, rfl⟩
        have hP : va_P (dC, dI) vwCl (xw qx cI x_34 ++ dw qd cI cO eA rd_34 ++ ew qe cI te_34 ++ bw qb cI b_34 ++ sw qs cI s9_34 ++ uw qu cI cB u_34 ++ kw qk qb qr qe qs qu qx qd cI kk_21) H := by rw [ekk_21]; exact hP
        have hf := lt_eq ekk_21 hf
        have hok := lt_ok ekk_21 hok
        refine lv_aload_n hx hb dX11_runCommands_115 rfl (lv_at hl 5 rfl) ?_
        refine va_get (D := (dC, dI)) (ci := 8) (v := .int kk_21) (C := RX11) (T := TX11) (N := 8) hx hb hts hin11 hown hK hP 61 rfl rfl 7 (by decide) fl58 (fun _ h9 => h9) rfl dX11_runCommands_116 ?_
        refine lv_if_eq (tgt := 124) hx hb dX11_runCommands_119 (by decide) (fun c22 => ?_) (fun c22 => ?_)
        · have hf := it_eq c22 hf
          have hok := it_ok c22 hok
          refine lv_aload_n hx hb dX11_runCommands_124 rfl (lv_at hl 5 rfl) ?_
          refine lv_aload_nE (ad := eA) (r := x11) hx hb dX11_runCommands_125 rfl (lv_at hl 4 rfl) ?_
          refine lv_iload hx hb dX11_runCommands_126 (lv_at hl 3 rfl) ?_
          refine lv_iload hx hb dX11_runCommands_128 (lv_at hl 2 rfl) ?_
          refine lv_iload hx hb dX11_runCommands_130 (lv_at hl 1 rfl) ?_
          refine lv_iload hx hb dX11_runCommands_132 (lv_at hl 0 rfl) ?_
          obtain ⟨h23, hok⟩ := hok
          have hPc := hP.sub (ws' := ew qe cI te_34 ++ bw qb cI b_34 ++ kw qk qb qr qe qs qu qx qd cI kk_21) [5, 6, 7, 8, 9, 10, 11, 12, 13, 14, 15, 16, 17, 61] rfl
          refine gmu_v (va_runV (As := [va_re eA x11, .int x13, .int x15, .int x17, .int x19]) (rest := []) ⟨hx, hb, hml, hown, hts⟩ (mX11_carryOut l dC dI cI cB cO cL N0 sT eA qe qb qk qr qs qu qx qd te_34 b_34 kk_21 x11 x13 x15 x17 x19 (gD_subT hD [5, 6, 7, 8, 9, 10, 11, 12, 13, 14, 15, 16, 17, 61] rfl rfl) (gN_sub hN9 [5, 6, 7, 8, 9, 10, 11, 12, 13, 14, 15, 16, 17, 61] rfl) h23) (cwV 5 hts gX11_runCommands_X11_carryOut rfl rfl rfl (by decide +kernel) ⟨Nat.le_of_ble_eq_true rfl, Nat.le_of_ble_eq_true rfl⟩) ⟨fP_blind, va_recv hK hPc (ci := 8) (q0 := 13) rfl rfl, fP_ok hPc hK hF hS hN⟩ rfl rfl hl.1 rfl (lv_room (Nat.le_of_ble_eq_true rfl)) dX11_runCommands_134 ⟨Nat.zero_le _, Nat.zero_le _⟩) hP (gD_va hD rfl) hS [5, 6, 7, 8, 9, 10, 11, 12, 13, 14, 15, 16, 17, 61] rfl (fun _ => rfl) (fun u25 H locs hw hP hS => ?_)
          have hP : va_P (dC, dI) vwCl (xw qx cI x_34 ++ dw qd cI cO eA rd_34 ++ ew qe cI u25.1 ++ bw qb cI u25.2.1 ++ sw qs cI s9_34 ++ uw qu cI cB u_34 ++ kw qk qb qr qe qs qu qx qd cI u25.2.2) H := by
            have e09 : gpatch (xw qx cI x_34 ++ dw qd cI cO eA rd_34 ++ ew qe cI te_34 ++ bw qb cI b_34 ++ sw qs cI s9_34 ++ uw qu cI cB u_34 ++ kw qk qb qr qe qs qu qx qd cI kk_21) [5, 6, 7, 8] (ew qe cI u25.1) = xw qx cI x_34 ++ dw qd cI cO eA rd_34 ++ ew qe cI u25.1 ++ bw qb cI b_34 ++ sw qs cI s9_34 ++ uw qu cI cB u_34 ++ kw qk qb qr qe qs qu qx qd cI kk_21 := gpw_1_4 (xw qx cI x_34 ++ dw qd cI cO eA rd_34) (ew qe cI te_34) (ew qe cI u25.1) (bw qb cI b_34) (sw qs cI s9_34) (uw qu cI cB u_34) (kw qk qb qr qe qs qu qx qd cI kk_21) [5, 6, 7, 8] rfl rfl
            have e19 : gpatch (xw qx cI x_34 ++ dw qd cI cO eA rd_34 ++ ew qe cI u25.1 ++ bw qb cI b_34 ++ sw qs cI s9_34 ++ uw qu cI cB u_34 ++ kw qk qb qr qe qs qu qx qd cI kk_21) [9, 10, 11, 12, 13, 14, 15, 16, 17] (bw qb cI u25.2.1) = xw qx cI x_34 ++ dw qd cI cO eA rd_34 ++ ew qe cI u25.1 ++ bw qb cI u25.2.1 ++ sw qs cI s9_34 ++ uw qu cI cB u_34 ++ kw qk qb qr qe qs qu qx qd cI kk_21 := gpw_1_3 (xw qx cI x_34 ++ dw qd cI cO eA rd_34 ++ ew qe cI u25.1) (bw qb cI b_34) (bw qb cI u25.2.1) (sw qs cI s9_34) (uw qu cI cB u_34) (kw qk qb qr qe qs qu qx qd cI kk_21) [9, 10, 11, 12, 13, 14, 15, 16, 17] rfl rfl
            have e29 : gpatch (xw qx cI x_34 ++ dw qd cI cO eA rd_34 ++ ew qe cI u25.1 ++ bw qb cI u25.2.1 ++ sw qs cI s9_34 ++ uw qu cI cB u_34 ++ kw qk qb qr qe qs qu qx qd cI kk_21) [61] (kw qk qb qr qe qs qu qx qd cI u25.2.2) = xw qx cI x_34 ++ dw qd cI cO eA rd_34 ++ ew qe cI u25.1 ++ bw qb cI u25.2.1 ++ sw qs cI s9_34 ++ uw qu cI cB u_34 ++ kw qk qb qr qe qs qu qx qd cI u25.2.2 := gpw_1_0 (xw qx cI x_34 ++ dw qd cI cO eA rd_34 ++ ew qe cI u25.1 ++ bw qb cI u25.2.1 ++ sw qs cI s9_34 ++ uw qu cI cB u_34) (kw qk qb qr qe qs qu qx qd cI kk_21) (kw qk qb qr qe qs qu qx qd cI u25.2.2) [61] rfl rfl
            have ta19 : gpatch (xw qx cI x_34 ++ dw qd cI cO eA rd_34 ++ ew qe cI te_34 ++ bw qb cI b_34 ++ sw qs cI s9_34 ++ uw qu cI cB u_34 ++ kw qk qb qr qe qs qu qx qd cI kk_21) [5, 6, 7, 8, 9, 10, 11, 12, 13, 14, 15, 16, 17] (ew qe cI u25.1 ++ bw qb cI u25.2.1) = xw qx cI x_34 ++ dw qd cI cO eA rd_34 ++ ew qe cI u25.1 ++ bw qb cI u25.2.1 ++ sw qs cI s9_34 ++ uw qu cI cB u_34 ++ kw qk qb qr qe qs qu qx qd cI kk_21 := (gpatch_app [5, 6, 7, 8] [9, 10, 11, 12, 13, 14, 15, 16, 17] (ew qe cI u25.1) (bw qb cI u25.2.1) (xw qx cI x_34 ++ dw qd cI cO eA rd_34 ++ ew qe cI te_34 ++ bw qb cI b_34 ++ sw qs cI s9_34 ++ uw qu cI cB u_34 ++ kw qk qb qr qe qs qu qx qd cI kk_21) rfl).trans ((congrArg (fun z9 => gpatch z9 [9, 10, 11, 12, 13, 14, 15, 16, 17] (bw qb cI u25.2.1)) e09).trans e19)
            have ta29 : gpatch (xw qx cI x_34 ++ dw qd cI cO eA rd_34 ++ ew qe cI te_34 ++ bw qb cI b_34 ++ sw qs cI s9_34 ++ uw qu cI cB u_34 ++ kw qk qb qr qe qs qu qx qd cI kk_21) [5, 6, 7, 8, 9, 10, 11, 12, 13, 14, 15, 16, 17, 61] (ew qe cI u25.1 ++ bw qb cI u25.2.1 ++ kw qk qb qr qe qs qu qx qd cI u25.2.2) = xw qx cI x_34 ++ dw qd cI cO eA rd_34 ++ ew qe cI u25.1 ++ bw qb cI u25.2.1 ++ sw qs cI s9_34 ++ uw qu cI cB u_34 ++ kw qk qb qr qe qs qu qx qd cI u25.2.2 := (gpatch_app [5, 6, 7, 8, 9, 10, 11, 12, 13, 14, 15, 16, 17] [61] (ew qe cI u25.1 ++ bw qb cI u25.2.1) (kw qk qb qr qe qs qu qx qd cI u25.2.2) (xw qx cI x_34 ++ dw qd cI cO eA rd_34 ++ ew qe cI te_34 ++ bw qb cI b_34 ++ sw qs cI s9_34 ++ uw qu cI cB u_34 ++ kw qk qb qr qe qs qu qx qd cI kk_21) rfl).trans ((congrArg (fun z9 => gpatch z9 [61] (kw qk qb qr qe qs qu qx qd cI u25.2.2)) ta19).trans e29)
            exact (congrArg (fun z9 => va_P (dC, dI) vwCl z9 H) ta29).mp hP
          have hf := lt_eq hw hf
          have hok := lt_ok hw hok
          obtain ⟨x26, ex26⟩ : ∃ y : Int32, y = v2_34 + 1 := ⟨_, rfl⟩
          refine lv_iinc (v := x26) (lv' := [(2, .int x26), (7, .int x19), (6, .int x17), (5, .int x15), (4, .int x13), (3, va_re eA x11), (0, .ref (qk 0))]) hx hb dX11_runCommands_137 hl (k := 6) rfl (by rw [ex26]; rfl) (by decide) rfl (fun ls hl => ?_)
          have hf := lt_eq ex26 hf
          have hok := lt_ok ex26 hok
          refine lv_goto (tgt := 34) hx hb dX11_runCommands_140 (by decide) ?_
          exact ih_34 x26 x_34 rd_34 u25.1 u25.2.1 s9_34 u_34 u25.2.2 _ _ hP hS _ (lv_sub hl [6, 0] rfl) hf hok
        · have hf := ie_eq c22 hf
          refine lv_iload_n hx hb dX11_runCommands_122 rfl (lv_at hl 6 rfl) ?_
          exact e_mi C0 (hf.symm.trans hFe) hP hS dX11_runCommands_123
  refine lv_aload_n hx hb dX11_runCommands_0 rfl (lv_at hl 0 rfl) ?_
  refine va_get (D := (dC, dI)) (ci := 8) (v := .ref (qd 0)) (C := RX11) (T := TX11) (N := 8) hx hb hts hin11 hown hK hP 61 rfl rfl 6 (by decide) fl54 (fun _ h9 => h9) rfl dX11_runCommands_1 ?_
  refine lv_aload_n hx hb dX11_runCommands_4 rfl (lv_at hl 0 rfl) ?_
  refine va_get (D := (dC, dI)) (ci := 8) (v := .ref (qx 0)) (C := RX11) (T := TX11) (N := 8) hx hb hts hin11 hown hK hP 61 rfl rfl 5 (by decide) fl47 (fun _ h9 => h9) rfl dX11_runCommands_5 ?_
  obtain ⟨h1, hok⟩ := hok
  have hPc := hP.sub (ws' := dw qd cI cO eA rd ++ xw qx cI x) [2, 3, 4, 0, 1] rfl
  refine gmu_i (va_runV (As := [.ref (qx 0)]) (rest := []) ⟨hx, hb, hml, hown, hts⟩ (mX4_read l dC dI cI cB cO cL N0 sT eA qd qx rd x (gD_subT hD [2, 3, 4, 0, 1] rfl rfl) (gN_sub hN9 [2, 3, 4, 0, 1] rfl) h1) (cwV 1 hts gX11_runCommands_X4_read rfl rfl rfl (by decide +kernel) ⟨Nat.le_of_ble_eq_true rfl, Nat.le_of_ble_eq_true rfl⟩) ⟨fP_blind, va_recv hK hPc (ci := 2) (q0 := 0) rfl rfl, fP_ok hPc hK hF hS hN⟩ rfl rfl hl.1 rfl (lv_room (Nat.le_of_ble_eq_true rfl)) dX11_runCommands_8 ⟨Nat.zero_le _, Nat.zero_le _⟩) hP (gD_va hD rfl) hS [2, 3, 4, 0, 1] rfl (fun _ => rfl) (fun r2 u3 H locs hw hP hS => ?_)
  have hP : va_P (dC, dI) vwCl (xw qx cI u3.2 ++ dw qd cI cO eA u3.1 ++ ew qe cI te ++ bw qb cI b ++ sw qs cI s9 ++ uw qu cI cB u ++ kw qk qb qr qe qs qu qx qd cI kk) H := by
    have e09 : gpatch (xw qx cI x ++ dw qd cI cO eA rd ++ ew qe cI te ++ bw qb cI b ++ sw qs cI s9 ++ uw qu cI cB u ++ kw qk qb qr qe qs qu qx qd cI kk) [2, 3, 4] (dw qd cI cO eA u3.1) = xw qx cI x ++ dw qd cI cO eA u3.1 ++ ew qe cI te ++ bw qb cI b ++ sw qs cI s9 ++ uw qu cI cB u ++ kw qk qb qr qe qs qu qx qd cI kk := gpw_1_5 (xw qx cI x) (dw qd cI cO eA rd) (dw qd cI cO eA u3.1) (ew qe cI te) (bw qb cI b) (sw qs cI s9) (uw qu cI cB u) (kw qk qb qr qe qs qu qx qd cI kk) [2, 3, 4] rfl rfl
    have e19 : gpatch (xw qx cI x ++ dw qd cI cO eA u3.1 ++ ew qe cI te ++ bw qb cI b ++ sw qs cI s9 ++ uw qu cI cB u ++ kw qk qb qr qe qs qu qx qd cI kk) [0, 1] (xw qx cI u3.2) = xw qx cI u3.2 ++ dw qd cI cO eA u3.1 ++ ew qe cI te ++ bw qb cI b ++ sw qs cI s9 ++ uw qu cI cB u ++ kw qk qb qr qe qs qu qx qd cI kk := gpw_0_6 (xw qx cI x) (xw qx cI u3.2) (dw qd cI cO eA u3.1) (ew qe cI te) (bw qb cI b) (sw qs cI s9) (uw qu cI cB u) (kw qk qb qr qe qs qu qx qd cI kk) [0, 1] rfl rfl
    have ea9 : gpatch (xw qx cI x ++ dw qd cI cO eA rd ++ ew qe cI te ++ bw qb cI b ++ sw qs cI s9 ++ uw qu cI cB u ++ kw qk qb qr qe qs qu qx qd cI kk) [2, 3, 4, 0, 1] (dw qd cI cO eA u3.1 ++ xw qx cI u3.2) = gpatch (gpatch (xw qx cI x ++ dw qd cI cO eA rd ++ ew qe cI te ++ bw qb cI b ++ sw qs cI s9 ++ uw qu cI cB u ++ kw qk qb qr qe qs qu qx qd cI kk) [2, 3, 4] (dw qd cI cO eA u3.1)) [0, 1] (xw qx cI u3.2) := gpatch_app [2, 3, 4] [0, 1] (dw qd cI cO eA u3.1) (xw qx cI u3.2) (xw qx cI x ++ dw qd cI cO eA rd ++ ew qe cI te ++ bw qb cI b ++ sw qs cI s9 ++ uw qu cI cB u ++ kw qk qb qr qe qs qu qx qd cI kk) rfl
    exact (congrArg (fun z9 => va_P (dC, dI) vwCl z9 H) (ea9.trans ((congrArg (fun z9 => gpatch z9 [0, 1] (xw qx cI u3.2)) e09).trans e19))).mp hP
  have hf := bd_eq hw hf
  have hok := bd_ok hw hok
  refine lv_istore_n (lv' := [(1, .int r2), (0, .ref (qk 0))]) hx hb dX11_runCommands_11 rfl hl (by decide) rfl (fun ls hl => ?_)
  refine lv_iload_n hx hb dX11_runCommands_12 rfl (lv_at hl 0 rfl) ?_
  refine lv_ldc (v := (-1000000000)) hx hb hown cn167 dX11_runCommands_13 ?_
  refine lv_icmp_eq (tgt := 23) hx hb dX11_runCommands_15 (by decide) (fun c4 => ?_) (fun c4 => ?_)
  · have hf := it_eq c4 hf
    have hok := it_ok c4 hok
    refine lv_aload_n hx hb dX11_runCommands_23 rfl (lv_at hl 1 rfl) ?_
    obtain ⟨h5, hok⟩ := hok
    have hPc := hP.sub (ws' := bw qb cI b ++ sw qs cI s9 ++ uw qu cI cB u ++ kw qk qb qr qe qs qu qx qd cI kk) [9, 10, 11, 12, 13, 14, 15, 16, 17, 18, 19, 20, 21, 22, 23, 24, 25, 26, 27, 28, 29, 30, 31, 32, 33, 34, 35, 36, 37, 38, 39, 40, 41, 42, 43, 44, 45, 46, 47, 48, 49, 50, 51, 52, 53, 54, 55, 56, 57, 58, 59, 60, 61] rfl
    refine gmu_v (va_runV (As := []) (rest := []) ⟨hx, hb, hml, hown, hts⟩ (mX11_saveState l dC dI cI cB cO cL qb qs qu qk qr qe qx qd b s9 u kk (gD_subT hD [9, 10, 11, 12, 13, 14, 15, 16, 17, 18, 19, 20, 21, 22, 23, 24, 25, 26, 27, 28, 29, 30, 31, 32, 33, 34, 35, 36, 37, 38, 39, 40, 41, 42, 43, 44, 45, 46, 47, 48, 49, 50, 51, 52, 53, 54, 55, 56, 57, 58, 59, 60, 61] rfl rfl) h5) (cwV 0 hts gX11_runCommands_X11_saveState rfl rfl rfl (by decide +kernel) ⟨Nat.le_of_ble_eq_true rfl, Nat.le_of_ble_eq_true rfl⟩) ⟨cP_blind, va_recv hK hPc (ci := 8) (q0 := 52) rfl rfl, cP_ok hPc hK hE⟩ rfl rfl hl.1 rfl (lv_room (Nat.le_of_ble_eq_true rfl)) dX11_runCommands_24 ⟨Nat.zero_le _, Nat.zero_le _⟩) hP (gD_va hD rfl) hS [9, 10, 11, 12, 13, 14, 15, 16, 17, 18, 19, 20, 21, 22, 23, 24, 25, 26, 27, 28, 29, 30, 31, 32, 33, 34, 35, 36, 37, 38, 39, 40, 41, 42, 43, 44, 45, 46, 47, 48, 49, 50, 51, 52, 53, 54, 55, 56, 57, 58, 59, 60, 61] rfl (fun _ => rfl) (fun u7 H locs hw hP hS => ?_)
    have hP : va_P (dC, dI) vwCl (xw qx cI u3.2 ++ dw qd cI cO eA u3.1 ++ ew qe cI te ++ bw qb cI u7.1 ++ sw qs cI u7.2.1 ++ uw qu cI cB u7.2.2.1 ++ kw qk qb qr qe qs qu qx qd cI u7.2.2.2) H := by
      have e09 : gpatch (xw qx cI u3.2 ++ dw qd cI cO eA u3.1 ++ ew qe cI te ++ bw qb cI b ++ sw qs cI s9 ++ uw qu cI cB u ++ kw qk qb qr qe qs qu qx qd cI kk) [9, 10, 11, 12, 13, 14, 15, 16, 17, 18, 19, 20, 21, 22, 23, 24, 25, 26, 27, 28, 29, 30, 31, 32, 33, 34, 35, 36, 37, 38, 39, 40, 41, 42, 43, 44, 45, 46, 47, 48, 49, 50, 51, 52, 53, 54, 55, 56, 57, 58, 59, 60, 61] (bw qb cI u7.1 ++ sw qs cI u7.2.1 ++ uw qu cI cB u7.2.2.1 ++ kw qk qb qr qe qs qu qx qd cI u7.2.2.2) = xw qx cI u3.2 ++ dw qd cI cO eA u3.1 ++ ew qe cI te ++ bw qb cI u7.1 ++ sw qs cI u7.2.1 ++ uw qu cI cB u7.2.2.1 ++ kw qk qb qr qe qs qu qx qd cI u7.2.2.2 := gpw_4 (xw qx cI u3.2 ++ dw qd cI cO eA u3.1 ++ ew qe cI te) (bw qb cI b) (sw qs cI s9) (uw qu cI cB u) (kw qk qb qr qe qs qu qx qd cI kk) (bw qb cI u7.1) (sw qs cI u7.2.1) (uw qu cI cB u7.2.2.1) (kw qk qb qr qe qs qu qx qd cI u7.2.2.2) [9, 10, 11, 12, 13, 14, 15, 16, 17, 18, 19, 20, 21, 22, 23, 24, 25, 26, 27, 28, 29, 30, 31, 32, 33, 34, 35, 36, 37, 38, 39, 40, 41, 42, 43, 44, 45, 46, 47, 48, 49, 50, 51, 52, 53, 54, 55, 56, 57, 58, 59, 60, 61] rfl rfl
      exact (congrArg (fun z9 => va_P (dC, dI) vwCl z9 H) e09).mp hP
    have hf := lt_eq hw hf
    have hok := lt_ok hw hok
    refine lv_aload_n hx hb dX11_runCommands_27 rfl (lv_at hl 1 rfl) ?_
    refine lv_iconst (v := 0) hx hb dX11_runCommands_28 (by decide) ?_
    refine va_put (D := (dC, dI)) (ci := 8) (v := .int 0) (ty := .int) (C := RX11) (T := TX11) (N := 8) hx hb hts hin11 tyX11 tyX11_ok nmX11 hown hK hP (gD_va hD rfl) hS 61 rfl rfl 7 (by decide) fl58 (fun _ h9 => h9) rfl (by decide +kernel) rfl rfl (Nat.le_of_ble_eq_true rfl) dX11_runCommands_29 (fun H locs hP _ hS => ?_)
    obtain ⟨kk_8, ekk_8⟩ : ∃ z9 : Int32, z9 = 0 := ⟨_, rfl⟩
    have hP : va_P (dC, dI) vwCl (xw qx cI u3.2 ++ dw qd cI cO eA u3.1 ++ ew qe cI te ++ bw qb cI u7.1 ++ sw qs cI u7.2.1 ++ uw qu cI cB u7.2.2.1 ++ kw qk qb qr qe qs qu qx qd cI kk_8) H := by rw [ekk_8]; exact hP
    have hf := lt_eq ekk_8 hf
    have hok := lt_ok ekk_8 hok
    refine lv_iconst (v := 0) hx hb dX11_runCommands_32 (by decide) ?_
    refine lv_istore_n (lv' := [(2, .int 0), (1, .int r2), (0, .ref (qk 0))]) hx hb dX11_runCommands_33 rfl hl (by decide) rfl (fun ls hl => ?_)
    exact J_34 fu 0 u3.2 u3.1 te u7.1 u7.2.1 u7.2.2.1 kk_8 _ _ hP hS _ (lv_sub hl [2, 0] rfl) hf hok
  · have hf := ie_eq c4 hf
    refine lv_bipush (v := (-10)) hx hb dX11_runCommands_18 (by decide) ?_
    refine lv_iload_n hx hb dX11_runCommands_20 rfl (lv_at hl 0 rfl) ?_
    refine lv_isub hx hb dX11_runCommands_21 ?_
    exact e_mi C0 (hf.symm.trans hFe) hP hS dX11_runCommands_22
