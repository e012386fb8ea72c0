noncomputable def bX8_take_L45   (q_45 : Int32 → Int32 → SS → BS → (SS × BS)) (v3_45 : Int32) (v4_45 : Int32) (s9_45 : SS) (b_45 : BS) : SS × BS := if v3_45 ≤ v4_45 then (lt (pX8_choose s9_45 v3_45) fun (u11 : SS) => (u11, b_45)) else (lt (pX8_judge s9_45 b_45 v4_45) fun (u14 : SS × BS) => lt (v4_45 + 1) fun (x15 : Int32) => q_45 v3_45 x15 u14.1 u14.2)
noncomputable def pX8_take_L45   : Nat → Int32 → Int32 → SS → BS → (SS × BS)
  | 0 => fun _ _ s9_45 b_45 => (s9_45, b_45)
  | n + 1 => bX8_take_L45   (pX8_take_L45   n)
def kbX8_take_L45   (Q_45 : Int32 → Int32 → SS → BS → Prop) (v3_45 : Int32) (v4_45 : Int32) (s9_45 : SS) (b_45 : BS) : Prop := if v3_45 ≤ v4_45 then (kX8_choose s9_45 v3_45) else ((kX8_judge s9_45 b_45 v4_45) ∧ (lt (pX8_judge s9_45 b_45 v4_45) fun (u14 : SS × BS) => lt (v4_45 + 1) fun (x15 : Int32) => Q_45 v3_45 x15 u14.1 u14.2))
noncomputable def kX8_take_L45   : Nat → Int32 → Int32 → SS → BS → Prop
  | 0 => fun _ _ _ _ => False
  | n + 1 => kbX8_take_L45   (kX8_take_L45   n)
noncomputable def pX8_take_L16   (v2_16 : Int32) (s9_16 : SS) (b_16 : BS) : SS × BS := lt (ssi s9_16 4 v2_16) fun (s9_2 : SS) => lt (ssi s9_2 3 1) fun (s9_3 : SS) => lt (pX8_gatherHearers s9_3 b_16) fun (u6 : SS × BS) => lt (jmin (pX2_cellCount u6.2) 400) fun (x7 : Int32) => pX8_take_L45 fu x7 0 u6.1 u6.2
def kX8_take_L16   (v2_16 : Int32) (s9_16 : SS) (b_16 : BS) : Prop := lt (ssi s9_16 4 v2_16) fun (s9_2 : SS) => lt (ssi s9_2 3 1) fun (s9_3 : SS) => (kX8_gatherHearers s9_3 b_16) ∧ (lt (pX8_gatherHearers s9_3 b_16) fun (u6 : SS × BS) => lt (jmin (pX2_cellCount u6.2) 400) fun (x7 : Int32) => kX8_take_L45 fu x7 0 u6.1 u6.2)
noncomputable def pX8_take (s9 : SS) (b : BS) (a2 : Int32) : SS × BS := if (s9.1 3) = 0 then (pX8_take_L16 a2 s9 b) else (if (s9.1 4) = a2 then ((s9, b)) else (pX8_take_L16 a2 s9 b))
def kX8_take (s9 : SS) (b : BS) (a2 : Int32) : Prop := if (s9.1 3) = 0 then (kX8_take_L16 a2 s9 b) else (if (s9.1 4) = a2 then (True) else (kX8_take_L16 a2 s9 b))
abbrev rX8_take : Room := { frames := 5, cells := 0, slots := 0, locals := 124 }
set_option maxHeartbeats 4000000 in
set_option maxRecDepth 100000 in
theorem mX8_take (l : Launch) (dC : Nat → ClassId) (dI : Nat → Nat → Nat) (cI cB cO cL : ClassId) (qs : Nat → Nat) (qb : Nat → Nat) (s9 : SS) (b : BS) (a2 : Int32) (hI : gD (fun _ => True) (sAd qs ++ bAd qb)) (hok : kX8_take s9 b a2) : Met l yX8_take wsX8_take rX8_take (cP (dC, dI) (tYS cI cB cO cL) (sw qs cI s9 ++ bw qb cI b) [.ref (qs 0), .ref (qb 0), .int a2]) (gQv (dC, dI) (fun z9 : SS × BS => sw qs cI z9.1 ++ bw qb cI z9.2) (wA (sw qs cI s9 ++ bw qb cI b)) (pX8_take s9 b a2)) 0 0 (wA (sw qs cI s9 ++ bw qb cI b)) := by
  refine cMet (cc := cX8_take) (maxL := 5) (ret := none) [(0, .ref (qs 0)), (1, .ref (qb 0)), (2, .int a2)] (by decide) rfl rfl rfl ?_
  intro p e s mi below meth c C0 hK hE hP ls hl
  obtain ⟨hx, hb, hr, hml, hown, hts, hlocks⟩ := id C0
  have hown : s.vm.findClass RX8 = some mi.cls := hown
  have hS : va_S (wA (sw qs cI s9 ++ bw qb cI b)) s.heap s.heap [] := va_S.rf
  have hD : gD (wA (sw qs cI s9 ++ bw qb cI b)) (sAd qs ++ bAd qb) := gD_wA (ws := sw qs cI s9 ++ bw qb cI b) hI
  have hP : va_P (dC, dI) vwCl (sw qs cI s9 ++ bw qb cI b) s.heap := hP
  obtain ⟨F, hF⟩ : ∃ F, F = pX8_take s9 b a2 := ⟨_, rfl⟩
  have hf := hF
  have hin8 : ∀ w ∈ u_ws RX8 TX8 9, w ∈ wsX8_take := by decide +kernel
  have fl35 := hts (.fieldLink RX8 35 "ClickBench$Survey" "isFresh" "Z") (by decide +kernel)
  have fl39 := hts (.fieldLink RX8 39 "ClickBench$Survey" "leftOut" "I") (by decide +kernel)
  have ml52 := hts (.methodLink RX8 52 Lib.Math.min.name) (by decide +kernel)
  have ms52 := hts (.static Lib.Math.min.name) (by decide +kernel)
  have mI := hts (.initialized "java/lang/Math") (by decide +kernel)
  have mc52 := hts (.code Lib.Math.min.name Lib.Math.min.code 2 (some .int)) (by decide +kernel)
  have J_45 : ∀ (n_45 : Nat) (v3_45 : Int32) (v4_45 : Int32) (s9_45 : SS) (b_45 : BS) (H : Heap) (locs : List Loc), va_P (dC, dI) vwCl (sw qs cI s9_45 ++ bw qb cI b_45) H → va_S (wA (sw qs cI s9 ++ bw qb cI b)) s.heap H locs → ∀ ls : Array Slot, lv_has ls 5 [(0, .ref (qs 0)), (1, .ref (qb 0)), (3, .int v3_45), (4, .int v4_45)] → F = pX8_take_L45 n_45 v3_45 v4_45 s9_45 b_45 → kX8_take_L45 n_45 v3_45 v4_45 s9_45 b_45 → W p l e rX8_take s mi ([.ref (qs 0), .ref (qb 0), .int a2] : List Value).toArray below meth c H locs 0 0 (MQ below (gQv (dC, dI) (fun z9 : SS × BS => sw qs cI z9.1 ++ bw qb cI z9.2) (wA (sw qs cI s9 ++ bw qb cI b)) (pX8_take s9 b a2)) ([.ref (qs 0), .ref (qb 0), .int a2] : List Value).toArray s 0 0 (wA (sw qs cI s9 ++ bw qb cI b))) (F0 mi 45 ls []) := by
    intro n_45
    induction n_45 with
    | zero =>
      intro v3_45 v4_45 s9_45 b_45 H locs hP hS ls hl hf hok
      exact absurd hok (fun h => h)
    | succ n_45 ih_45 =>
      intro v3_45 v4_45 s9_45 b_45 H locs hP hS ls hl hf hok
      have hf : F = bX8_take_L45 (pX8_take_L45 n_45) v3_45 v4_45 s9_45 b_45 := hf
      have hok : kbX8_take_L45 (kX8_take_L45 n_45) v3_45 v4_45 s9_45 b_45 := hok
      refine lv_iload hx hb dX8_take_45 (lv_at hl 3 rfl) ?_
      refine lv_iload_n hx hb dX8_take_47 rfl (lv_at hl 2 rfl) ?_
      refine lv_icmp_ge (tgt := 64) hx hb dX8_take_48 (by decide) (fun c8 => ?_) (fun c8 => ?_)
      · have hf := it_eq c8 hf
        have hok := it_ok c8 hok
        refine lv_aload_n hx hb dX8_take_64 rfl (lv_at hl 0 rfl) ?_
        refine lv_iload_n hx hb dX8_take_65 rfl (lv_at hl 2 rfl) ?_
        have h9 : kX8_choose s9_45 v3_45 := hok
        have hPc := hP.sub (ws' := sw qs cI s9_45) [0, 1, 2, 3, 4] rfl
        refine gmu_v (va_runV (As := [.int v3_45]) (rest := []) ⟨hx, hb, hml, hown, hts⟩ (mX8_choose l dC dI cI cB cO cL qs s9_45 v3_45 (gD_subT hD [0, 1, 2, 3, 4] rfl rfl) h9) (cwV 1 hts gX8_take_X8_choose rfl rfl rfl (by decide +kernel) ⟨Nat.le_of_ble_eq_true rfl, Nat.le_of_ble_eq_true rfl⟩) ⟨cP_blind, va_recv hK hPc (ci := 5) (q0 := 0) rfl rfl, cP_ok hPc hK hE⟩ rfl rfl hl.1 rfl (lv_room (Nat.le_of_ble_eq_true rfl)) dX8_take_66 ⟨Nat.zero_le _, Nat.zero_le _⟩) hP (gD_va hD rfl) hS [0, 1, 2, 3, 4] rfl (fun _ => rfl) (fun u11 H locs hw hP hS => ?_)
        have hP : va_P (dC, dI) vwCl (sw qs cI u11 ++ bw qb cI b_45) H := hP
        have hf := lt_eq hw hf
        exact e_mv C0 (hf.symm.trans hF) hP hS dX8_take_69
      · have hf := ie_eq c8 hf
        have hok := ie_ok c8 hok
        refine lv_aload_n hx hb dX8_take_51 rfl (lv_at hl 0 rfl) ?_
        refine lv_aload_n hx hb dX8_take_52 rfl (lv_at hl 1 rfl) ?_
        refine lv_iload hx hb dX8_take_53 (lv_at hl 3 rfl) ?_
        obtain ⟨h12, hok⟩ := hok
        refine gms_v (va_runV (As := [.ref (qb 0), .int v4_45]) (rest := []) ⟨hx, hb, hml, hown, hts⟩ (mX8_judge l dC dI cI cB cO cL qs qb s9_45 b_45 v4_45 (gD_any hD) h12) (cwV 2 hts gX8_take_X8_judge rfl rfl rfl (by decide +kernel) ⟨Nat.le_of_ble_eq_true rfl, Nat.le_of_ble_eq_true rfl⟩) ⟨cP_blind, va_recv hK hP (ci := 5) (q0 := 0) rfl rfl, cP_ok hP hK hE⟩ rfl rfl hl.1 rfl (lv_room (Nat.le_of_ble_eq_true rfl)) dX8_take_55 ⟨Nat.zero_le _, Nat.zero_le _⟩) hP (gD_va hD rfl) hS (fun u14 H locs hw hP hS => ?_)
        have hP : va_P (dC, dI) vwCl (sw qs cI u14.1 ++ bw qb cI u14.2) H := hP
        have hf := lt_eq hw hf
        have hok := lt_ok hw hok
        obtain ⟨x15, ex15⟩ : ∃ y : Int32, y = v4_45 + 1 := ⟨_, rfl⟩
        refine lv_iinc (v := x15) (lv' := [(4, .int x15), (0, .ref (qs 0)), (1, .ref (qb 0)), (3, .int v3_45)]) hx hb dX8_take_58 hl (k := 3) rfl (by rw [ex15]; rfl) (by decide) rfl (fun ls hl => ?_)
        have hf := lt_eq ex15 hf
        have hok := lt_ok ex15 hok
        refine lv_goto (tgt := 45) hx hb dX8_take_61 (by decide) ?_
        exact ih_45 v3_45 x15 u14.1 u14.2 _ _ hP hS _ (lv_sub hl [1, 2, 3, 0] rfl) hf hok
  have J_16 : ∀ (v2_16 : Int32) (s9_16 : SS) (b_16 : BS) (H : Heap) (locs : List Loc), va_P (dC, dI) vwCl (sw qs cI s9_16 ++ bw qb cI b_16) H → va_S (wA (sw qs cI s9 ++ bw qb cI b)) s.heap H locs → ∀ ls : Array Slot, lv_has ls 5 [(0, .ref (qs 0)), (1, .ref (qb 0)), (2, .int v2_16)] → F = pX8_take_L16 v2_16 s9_16 b_16 → kX8_take_L16 v2_16 s9_16 b_16 → W p l e rX8_take s mi ([.ref (qs 0), .ref (qb 0), .int a2] : List Value).toArray below meth c H locs 0 0 (MQ below (gQv (dC, dI) (fun z9 : SS × BS => sw qs cI z9.1 ++ bw qb cI z9.2) (wA (sw qs cI s9 ++ bw qb cI b)) (pX8_take s9 b a2)) ([.ref (qs 0), .ref (qb 0), .int a2] : List Value).toArray s 0 0 (wA (sw qs cI s9 ++ bw qb cI b))) (F0 mi 16 ls []) := by
    intro v2_16 s9_16 b_16 H locs hP hS ls hl hf hok
    refine lv_aload_n hx hb dX8_take_16 rfl (lv_at hl 0 rfl) ?_
    refine lv_iload_n hx hb dX8_take_17 rfl (lv_at hl 2 rfl) ?_
    refine va_put (D := (dC, dI)) (ci := 5) (v := .int v2_16) (ty := .int) (C := RX8) (T := TX8) (N := 9) hx hb hts hin8 tyX8 tyX8_ok nmX8 hown hK hP (gD_va hD rfl) hS 0 rfl rfl 8 (by decide) fl39 (fun _ h9 => h9) rfl (by decide +kernel) rfl rfl (Nat.le_of_ble_eq_true rfl) dX8_take_18 (fun H locs hP _ hS => ?_)
    obtain ⟨s9_2, es9_2⟩ : ∃ z9 : SS, z9 = ssi s9_16 4 v2_16 := ⟨_, rfl⟩
    have hP : va_P (dC, dI) vwCl (sw qs cI s9_2 ++ bw qb cI b_16) H := by rw [es9_2]; exact hP
    have hf := lt_eq es9_2 hf
    have hok := lt_ok es9_2 hok
    refine lv_aload_n hx hb dX8_take_21 rfl (lv_at hl 0 rfl) ?_
    refine lv_iconst (v := 1) hx hb dX8_take_22 (by decide) ?_
    refine va_put (D := (dC, dI)) (ci := 5) (v := .int 1) (ty := .boolean) (C := RX8) (T := TX8) (N := 9) hx hb hts hin8 tyX8 tyX8_ok nmX8 hown hK hP (gD_va hD rfl) hS 0 rfl rfl 7 (by decide) fl35 (fun _ h9 => h9) rfl (by decide +kernel) rfl rfl (Nat.le_of_ble_eq_true rfl) dX8_take_23 (fun H locs hP _ hS => ?_)
    obtain ⟨s9_3, es9_3⟩ : ∃ z9 : SS, z9 = ssi s9_2 3 1 := ⟨_, rfl⟩
    have hP : va_P (dC, dI) vwCl (sw qs cI s9_3 ++ bw qb cI b_16) H := by rw [es9_3]; exact hP
    have hf := lt_eq es9_3 hf
    have hok := lt_ok es9_3 hok
    refine lv_aload_n hx hb dX8_take_26 rfl (lv_at hl 0 rfl) ?_
    refine lv_aload_n hx hb dX8_take_27 rfl (lv_at hl 1 rfl) ?_
    obtain ⟨h4, hok⟩ := hok
    refine gms_v (va_runV (As := [.ref (qb 0)]) (rest := []) ⟨hx, hb, hml, hown, hts⟩ (mX8_gatherHearers l dC dI cI cB cO cL qs qb s9_3 b_16 (gD_any hD) h4) (cwV 1 hts gX8_take_X8_gatherHearers rfl rfl rfl (by decide +kernel) ⟨Nat.le_of_ble_eq_true rfl, Nat.le_of_ble_eq_true rfl⟩) ⟨cP_blind, va_recv hK hP (ci := 5) (q0 := 0) rfl rfl, cP_ok hP hK hE⟩ rfl rfl hl.1 rfl (lv_room (Nat.le_of_ble_eq_true rfl)) dX8_take_28 ⟨Nat.zero_le _, Nat.zero_le _⟩) hP (gD_va hD rfl) hS (fun u6 H locs hw hP hS => ?_)
    have hP : va_P (dC, dI) vwCl (sw qs cI u6.1 ++ bw qb cI u6.2) H := hP
    have hf := lt_eq hw hf
    have hok := lt_ok hw hok
    refine lv_aload_n hx hb dX8_take_31 rfl (lv_at hl 1 rfl) ?_
    have hPc := hP.sub (ws' := bw qb cI u6.2) [5, 6, 7, 8, 9, 10, 11, 12, 13] rfl
    refine gro_i (va_runV (As := []) (rest := []) ⟨hx, hb, hml, hown, hts⟩ (mX2_cellCount l dC dI cI cB cO cL qb u6.2  ) (cwV 0 hts gX8_take_X2_cellCount rfl rfl rfl (by decide +kernel) ⟨Nat.le_of_ble_eq_true rfl, Nat.le_of_ble_eq_true rfl⟩) ⟨cP_blind, va_recv hK hPc (ci := 1) (q0 := 0) rfl rfl, cP_ok hPc hK hE⟩ rfl rfl hl.1 rfl (lv_room (Nat.le_of_ble_eq_true rfl)) dX8_take_32 ⟨Nat.zero_le _, Nat.zero_le _⟩) ?_
    refine lv_sipush (v := 400) hx hb dX8_take_35 (by decide) ?_
    refine va_mmin hx hb (hml.trans hl.1.symm) hown ml52 ms52 mI mc52 (Nat.le_of_ble_eq_true rfl) (Nat.le_of_ble_eq_true rfl) (Nat.zero_le _) (Nat.zero_le _) dX8_take_38 ?_
    refine lv_topi (fun x7 ex7 => ?_)
    have hf := lt_eq ex7 hf
    have hok := lt_ok ex7 hok
    refine lv_istore_n (lv' := [(3, .int x7), (0, .ref (qs 0)), (1, .ref (qb 0)), (2, .int v2_16)]) hx hb dX8_take_41 rfl hl (by decide) rfl (fun ls hl => ?_)
    refine lv_iconst (v := 0) hx hb dX8_take_42 (by decide) ?_
    refine lv_istore (lv' := [(4, .int 0), (3, .int x7), (0, .ref (qs 0)), (1, .ref (qb 0)), (2, .int v2_16)]) hx hb dX8_take_43 hl (by decide) rfl (fun ls hl => ?_)
    exact J_45 fu x7 0 u6.1 u6.2 _ _ hP hS _ (lv_sub hl [2, 3, 1, 0] rfl) hf hok
  refine lv_aload_n hx hb dX8_take_0 rfl (lv_at hl 0 rfl) ?_
  refine va_get (D := (dC, dI)) (ci := 5) (v := .int (s9.1 3)) (C := RX8) (T := TX8) (N := 9) hx hb hts hin8 hown hK hP 0 rfl rfl 7 (by decide) fl35 (fun _ h9 => h9) rfl dX8_take_1 ?_
  refine lv_if_eq (tgt := 16) hx hb dX8_take_4 (by decide) (fun c1 => ?_) (fun c1 => ?_)
  · have hf := it_eq c1 hf
    have hok := it_ok c1 hok
    exact J_16 a2 s9 b _ _ hP hS _ (lv_sub hl [0, 1, 2] rfl) hf hok
  · have hf := ie_eq c1 hf
    have hok := ie_ok c1 hok
    refine lv_aload_n hx hb dX8_take_7 rfl (lv_at hl 0 rfl) ?_
    refine va_get (D := (dC, dI)) (ci := 5) (v := .int (s9.1 4)) (C := RX8) (T := TX8) (N := 9) hx hb hts hin8 hown hK hP 0 rfl rfl 8 (by decide) fl39 (fun _ h9 => h9) rfl dX8_take_8 ?_
    refine lv_iload_n hx hb dX8_take_11 rfl (lv_at hl 2 rfl) ?_
    refine lv_icmp_ne (tgt := 16) hx hb dX8_take_12 (by decide) (fun c16 => ?_) (fun c16 => ?_)
    · have hf := ie_eq c16 hf
      have hok := ie_ok c16 hok
      exact J_16 a2 s9 b _ _ hP hS _ (lv_sub hl [0, 1, 2] rfl) hf hok
    · have hf := it_eq c16 hf
      exact e_mv C0 (hf.symm.trans hF) hP hS dX8_take_15
