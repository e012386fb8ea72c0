noncomputable def bX8_take_L45   (q_45 : Int32 → Int32 → SS → BS → (SS × BS)) (v3_45 : Int32) (v4_45 : Int32) (s9_45 : SS) (b_45 : BS) : SS × BS := if v3_45 ≤ v4_45 then (lt (pX8_choose s9_45 v3_45) fun (u11 : SS) => (u11, b_45)) else (lt (pX8_judge s9_45 b_45 v4_45) fun (u14 : SS × BS) => lt (v4_45 + 1) fun (x15 : Int32) => q_45 v3_45 x15 u14.1 u14.2)
noncomputable def pX8_take_L45   : Nat → Int32 → Int32 → SS → BS → (SS × BS)
  | 0 => fun _ _ s9_45 b_45 => (s9_45, b_45)
  | n + 1 => bX8_take_L45   (pX8_take_L45   n)
def kbX8_take_L45   (Q_45 : Int32 → Int32 → SS → BS → Prop) (v3_45 : Int32) (v4_45 : Int32) (s9_45 : SS) (b_45 : BS) : Prop := if v3_45 ≤ v4_45 then (kX8_choose s9_45 v3_45) else ((kX8_judge s9_45 b_45 v4_45) ∧ (lt (pX8_judge s9_45 b_45 v4_45) fun (u14 : SS × BS) => lt (v4_45 + 1) fun (x15 : Int32) => Q_45 v3_45 x15 u14.1 u14.2))
noncomputable def kX8_take_L45   : Nat → Int32 → Int32 → SS → BS → Prop
  | 0 => fun _ _ _ _ => False
  | n + 1 => kbX8_take_L45   (kX8_take_L45   n)
noncomputable def pX8_take_L16   (v2_16 : Int32) (s9_16 : SS) (b_16 : BS) : SS × BS := lt (ssi s9_16 4 v2_16) fun (s9_2 : SS) => lt (ssi s9_2 3 1) fun (s9_3 : SS) => lt (pX8_gatherHearers s9_3 b_16) fun (u6 : SS × BS) => lt (jmin (pX2_cellCount u6.2) 400) fun (x7 : Int32) => pX8_take_L45 fu x7 0 u6.1 u6.2
def kX8_take_L16   (v2_16 : Int32) (s9_16 : SS) (b_16 : BS) : Prop := lt (ssi s9_16 4 v2_16) fun (s9_2 : SS) => lt (ssi s9_2 3 1) fun (s9_3 : SS) => (kX8_gatherHearers s9_3 b_16) ∧ (lt (pX8_gatherHearers s9_3 b_16) fun (u6 : SS × BS) => lt (jmin (pX2_cellCount u6.2) 400) fun (x7 : Int32) => kX8_take_L45 fu x7 0 u6.1 u6.2)
noncomputable def pX8_take (s9 : SS) (b : BS) (a2 : Int32) : SS × BS := if (s9.1 3) = 0 then (pX8_take_L16 a2 s9 b) else (if (s9.1 4) = a2 then ((s9, b)) else (pX8_take_L16 a2 s9 b))
def kX8_take (s9 : SS) (b : BS) (a2 : Int32) : Prop := if (s9.1 3) = 0 then (kX8_take_L16 a2 s9 b) else (if (s9.1 4) = a2 then (True) else (kX8_take_L16 a2 s9 b))
abbrev rX8_take : Room := { frames := 5, cells := 0, slots := 0, locals := 124 }
set_option maxHeartbeats 4000000 in
set_option maxRecDepth 100000 in
theorem mX8_take (l : Launch) (dC : Nat → ClassId) (dI : Nat → Nat → Nat) (cI cB cO cL : ClassId) (qs : Nat → Nat) (qb : Nat → Nat) (s9 : SS) (b : BS) (a2 : Int32) (hI : gD (fun _ => True) (sAd qs ++ bAd qb)) (hok : kX8_take s9 b a2) : Met l yX8_take wsX8_take rX8_take (cP (dC, dI) (tYS cI cB cO cL) (sw qs cI s9 ++ bw qb cI b) [.ref (qs 0), .ref (qb 0), .int a2]) (gQv (dC, dI) (fun z9 : SS × BS => sw qs cI z9.1 ++ bw qb cI z9.2) (wA (sw qs cI s9 ++ bw qb cI b)) (pX8_take s9 b a2)) 0 0 (wA (sw qs cI s9 ++ bw qb cI b)) := by
  refine cMet (cc := cX8_take) (maxL := 5) (ret := none) [(0, .ref (qs 0)), (1, .ref (qb 0)), (2, .int a2)] (by decide) rfl rfl rfl ?_
  intro p e s mi below meth c C0 hK hE hP ls hl
  obtain ⟨hx, hb, hr, hml, hown, hts, hlocks⟩ := id C0
  have hown : s.vm.findClass RX8 = some mi.cls := hown
  have hS : va_S (wA (sw qs cI s9 ++ bw qb cI b)) s.heap s.heap [] := va_S.rf
  have hD : gD (wA (sw qs cI s9 ++ bw qb cI b)) (sAd qs ++ bAd qb) := gD_wA (ws := sw qs cI s9 ++ bw qb cI b) hI
  have hP : va_P (dC, dI) vwCl (sw qs cI s9 ++ bw qb cI b) s.heap := hP
  obtain ⟨F, hF⟩ : ∃ F, F = pX8_take s9 b a2 := ⟨_, rfl⟩
  have hf := hF
  have hin8 : ∀ w ∈ u_ws RX8 TX8 9, w ∈ wsX8_take := by decide +kernel
  have fl35 := hts (.fieldLink RX8 35 "ClickBench$Survey" "isFresh" "Z") (by decide +kernel)
  have fl39 := hts (.fieldLink RX8 39 "ClickBench$Survey" "leftOut" "I") (by decide +kernel)
  have ml52 := hts (.methodLink RX8 52 Lib.Math.min.name) (by decide +kernel)
  have ms52 := hts (.static Lib.Math.min.name) (by decide +kernel)
  have mI := hts (.initialized "java/lang/Math") (by decide +kernel)
  have mc52 := hts (.code Lib.Math.min.name Lib.Math.min.code 2 (some .int)) (by decide +kernel)
  have J_45 : ∀ (n_45 : Nat) (v3_45 : Int32) (v4_45 : Int32) (s9_45 : SS) (b_45 : BS) (H : Heap) (locs : List Loc), va_P (dC, dI) vwCl (sw qs cI s9_45 ++ bw qb cI b_45) H → va_S (wA (sw qs cI s9 ++ bw qb cI b)) s.heap H locs → ∀ ls : Array Slot, lv_has ls 5 [(0, .ref (qs 0)), (1, .ref (qb 0)), (3, .int v3_45), (4, .int v4_45)] → F = pX8_take_L45 n_45 v3_45 v4_45 s9_45 b_45 → kX8_take_L45 n_45 v3_45 v4_45 s9_45 b_45 → W p l e rX8_take s mi ([.ref (qs 0), .ref (qb 0), .int a2] : List Value).toArray below meth c H locs 0 0 (MQ below (gQv (dC, dI) (fun z9 : SS × BS => sw qs cI z9.1 ++ bw qb cI z9.2) (wA (sw qs cI s9 ++ bw qb cI b)) (pX8_take s9 b a2)) ([.ref (qs 0), .ref (qb 0), .int a2] : List Value).toArray s 0 0 (wA (sw qs cI s9 ++ bw qb cI b))) (F0 mi 45 ls []) := by
    intro n_45
    induction n_45 with
    | zero =>
      intro v3_45 v4_45 s9_45 b_45 H locs hP hS ls hl hf hok
      exact absurd hok (fun h => h)
    | succ n_45 ih_45 =>
      intro v3_45 v4_45 s9_45 b_45 H locs hP hS ls hl hf hok
      have hf : F = bX8_take_L45 (pX8_take_L45 n_45) v3_45 v4_45 s9_45 b_45 := hf
      have hok : kbX8_take_L45 (kX8_take_L45 n_45) v3_45 v4_45 s9_45 b_45 := hok
      refine lv_iload hx hb dX8_take_45 (lv_at hl 3 rfl) ?_
      refine lv_iload_n hx hb dX8_take_47 rfl (lv_at hl 2 rfl) ?_
      refine lv_icmp_ge (tgt := 64) hx hb dX8_take_48 (by decide) (fun c8 => ?_) (fun c8 => ?_)
      · have hf := it_eq c8 hf
        have hok := it_ok c8 hok
        refine lv_aload_n hx hb dX8_take_64 rfl (lv_at hl 0 rfl) ?_
        refine lv_iload_n hx hb dX8_take_65 rfl (lv_at hl 2 rfl) ?_
        have h9 : kX8_choose s9_45 v3_45 := hok
        have hPc := hP.sub (ws' := sw qs cI s9_45) [0, 1, 2, 3, 4] rfl
        refine gmu_v (va_runV (As := [.int v3_45]) (rest := []) ⟨hx, hb, hml, hown, hts⟩ (mX8_choose l dC dI cI cB cO cL qs s9_45 v3_45 (gD_subT hD [0, 1, 2, 3, 4] rfl rfl) h9) (cwV 1 hts gX8_take_X8_choose rfl rfl rfl (by decide +kernel) ⟨Nat.le_of_ble_eq_true rfl, Nat.le_of_ble_eq_true rfl⟩) ⟨cP_blind, va_recv hK hPc (ci := 5) (q0 := 0) rfl rfl, cP_ok hPc hK hE⟩ rfl rfl hl.1 rfl (lv_room (Nat.le_of_ble_eq_true rfl)) dX8_take_66 ⟨Nat.zero_le _, Nat.zero_le _⟩) hP (gD_va hD rfl) hS [0, 1, 2, 3, 4] rfl (fun _ => rfl) (fun u11 H locs hw hP hS => ?_)
        have hP : va_P (dC, dI) vwCl (sw qs cI u11 ++ bw qb cI b_45) H := hP
        have hf := lt_eq hw hf
        exact e_mv C0 (hf.symm.trans hF) hP hS dX8_take_69
      · have hf := ie_eq c8 hf
        have hok := ie_ok c8 hok
        refine lv_aload_n hx hb dX8_take_51 rfl (lv_at hl 0 rfl) ?_
        refine lv_aload_n hx hb dX8_take_52 rfl (lv_at hl 1 rfl) ?_
        refine lv_iload hx hb dX8_take_53 (lv_at hl 3 rfl) ?_
        obtain ⟨h12, hok⟩ := hok
        refine gms_v (va_runV (As := [.ref (qb 0), .int v4_45]) (rest := []) ⟨hx, hb, hml, hown, hts⟩ (mX8_judge l dC dI cI cB cO cL qs qb s9_45 b_45 v4_45 (gD_any hD) h12) (cwV 2 hts gX8_take_X8_judge rfl rfl rfl (by decide +kernel) ⟨Nat.le_of_ble_eq_true rfl, Nat.le_of_ble_eq_true rfl⟩) ⟨cP_blind, va_recv hK hP (ci := 5) (q0 := 0) rfl rfl, cP_ok hP hK hE⟩ rfl rfl hl.1 rfl (lv_room (Nat.le_of_ble_eq_true rfl)) dX8_take_55 ⟨Nat.zero_le _, Nat.zero_le _⟩) hP (gD_va hD rfl) hS (fun u14 H locs hw hP hS => ?_)
        have hP : va_P (dC, dI) vwCl (sw qs cI u14.1 ++ bw qb cI u14.2) H := hP
        have hf := lt_eq hw hf
        have hok := lt_ok hw hok
        obtain ⟨x15, ex15⟩ : ∃ y : Int32, y = v4_45 + 1 := ⟨_, rfl⟩
        refine lv_iinc (v := x15) (lv' := [(4, .int x15), (0, .ref (qs 0)), (1, .ref (qb 0)), (3, .int v3_45)]) hx hb dX8_take_58 hl (k := 3) rfl (by rw [ex15]; rfl) (by decide) rfl (fun ls hl => ?_)
        have hf := lt_eq ex15 hf
        have hok := lt_ok ex15 hok
        refine lv_goto (tgt := 45) hx hb dX8_take_61 (by decide) ?_
        exact ih_45 v3_45 x15 u14.1 u14.2 _ _ hP hS _ (lv_sub hl [1, 2, 3, 0] rfl) hf hok
  have J_16 : ∀ (v2_16 : Int32) (s9_16 : SS) (b_16 : BS) (H : Heap) (locs : List Loc), va_P (dC, dI) vwCl (sw qs cI s9_16 ++ bw qb cI b_16) H → va_S (wA (sw qs cI s9 ++ bw qb cI b)) s.heap H locs → ∀ ls : Array Slot, lv_has ls 5 [(0, .ref (qs 0)), (1, .ref (qb 0)), (2, .int v2_16)] → F = pX8_take_L16 v2_16 s9_16 b_16 → kX8_take_L16 v2_16 s9_16 b_16 → W p l e rX8_take s mi ([.ref (qs 0), .ref (qb 0), .int a2] : List Value).toArray below meth c H locs 0 0 (MQ below (gQv (dC, dI) (fun z9 : SS × BS => sw qs cI z9.1 ++ bw qb cI z9.2) (wA (sw qs cI s9 ++ bw qb cI b)) (pX8_take s9 b a2)) ([.ref (qs 0), .ref (qb 0), .int a2] : List Value).toArray s 0 0 (wA (sw qs cI s9 ++ bw qb cI b))) (F0 mi 16 ls []) := by
    intro v2_16 s9_16 b_16 H locs hP hS ls hl hf hok
    refine lv_aload_n hx hb dX8_take_16 rfl (lv_at hl 0 rfl) ?_
    refine lv_iload_n hx hb dX8_take_17 rfl (lv_at hl 2 rfl) ?_
    refine va_put (D := (dC, dI)) (ci := 5) (v := .int v2_16) (ty := .int) (C := RX8) (T := TX8) (N := 9) hx hb hts hin8 tyX8 tyX8_ok nmX8 hown hK hP (gD_va hD rfl) hS 0 rfl rfl 8 (by decide) fl39 (fun _ h9 => h9) rfl (by decide +kernel) rfl rfl (Nat.le_of_ble_eq_true rfl) dX8_take_18 (fun H locs hP _ hS => ?_)
    obtain ⟨s9_2, es9_2⟩ : ∃ z9 : SS, z9 = ssi s9_16 4 v2_16 := ⟨_, rfl⟩
    have hP : va_P (dC, dI) vwCl (sw qs cI s9_2 ++ bw qb cI b_16) H := by rw [es9_2]; exact hP
    have hf := lt_eq es9_2 hf
    have hok := lt_ok es9_2 hok
    refine lv_aload_n hx hb dX8_take_21 rfl (lv_at hl 0 rfl) ?_
    refine lv_iconst (v := 1) hx hb dX8_take_22 (by decide) ?_
    refine va_put (D := (dC, dI)) (ci := 5) (v := .int 1) (ty := .boolean) (C := RX8) (T := TX8) (N := 9) hx hb hts hin8 tyX8 tyX8_ok nmX8 hown hK hP (gD_va hD rfl) hS 0 rfl rfl 7 (by decide) fl35 (fun _ h9 => h9) rfl (by decide +kernel) rfl rfl (Nat.le_of_ble_eq_true rfl) dX8_take_23 (fun H locs hP _ hS => ?_)
    obtain ⟨s9_3, es9_3⟩ : ∃ z9 : SS, z9 = ssi s9_2 3 1 := ⟨_, rfl⟩
    have hP : va_P (dC, dI) vwCl (sw qs cI s9_3 ++ bw qb cI b_16) H := by rw [es9_3]; exact hP
    have hf := lt_eq es9_3 hf
    have hok := lt_ok es9_3 hok
    refine lv_aload_n hx hb dX8_take_26 rfl (lv_at hl 0 rfl) ?_
    refine lv_aload_n hx hb dX8_take_27 rfl (lv_at hl 1 rfl) ?_
    obtain ⟨h4, hok⟩ := hok
    refine gms_v (va_runV (As := [.ref (qb 0)]) (rest := []) ⟨hx, hb, hml, hown, hts⟩ (mX8_gatherHearers l dC dI cI cB cO cL qs qb s9_3 b_16 (gD_any hD) h4) (cwV 1 hts gX8_take_X8_gatherHearers rfl rfl rfl (by decide +kernel) ⟨Nat.le_of_ble_eq_true rfl, Nat.le_of_ble_eq_true rfl⟩) ⟨cP_blind, va_recv hK hP (ci := 5) (q0 := 0) rfl rfl, cP_ok hP hK hE⟩ rfl rfl hl.1 rfl (lv_room (Nat.le_of_ble_eq_true rfl)) dX8_take_28 ⟨Nat.zero_le _, Nat.zero_le _⟩) hP (gD_va hD rfl) hS (fun u6 H locs hw hP hS => ?_)
    have hP : va_P (dC, dI) vwCl (sw qs cI u6.1 ++ bw qb cI u6.2) H := hP
    have hf := lt_eq hw hf
    have hok := lt_ok hw hok
    refine lv_aload_n hx hb dX8_take_31 rfl (lv_at hl 1 rfl) ?_
    have hPc := hP.sub (ws' := bw qb cI u6.2) [5, 6, 7, 8, 9, 10, 11, 12, 13] rfl
    refine gro_i (va_runV (As := []) (rest := []) ⟨hx, hb, hml, hown, hts⟩ (mX2_cellCount l dC dI cI cB cO cL qb u6.2  ) (cwV 0 hts gX8_take_X2_cellCount rfl rfl rfl (by decide +kernel) ⟨Nat.le_of_ble_eq_true rfl, Nat.le_of_ble_eq_true rfl⟩) ⟨cP_blind, va_recv hK hPc (ci := 1) (q0 := 0) rfl rfl, cP_ok hPc hK hE⟩ rfl rfl hl.1 rfl (lv_room (Nat.le_of_ble_eq_true rfl)) dX8_take_32 ⟨Nat.zero_le _, Nat.zero_le _⟩) ?_
    refine lv_sipush (v := 400) hx hb dX8_take_35 (by decide) ?_
    refine va_mmin hx hb (hml.trans hl.1.symm) hown ml52 ms52 mI mc52 (Nat.le_of_ble_eq_true rfl) (Nat.le_of_ble_eq_true rfl) (Nat.zero_le _) (Nat.zero_le _) dX8_take_38 ?_
    refine lv_topi (fun x7 ex7 => ?_)
    have hf := lt_eq ex7 hf
    have hok := lt_ok ex7 hok
    refine lv_istore_n (lv' := [(3, .int x7), (0, .ref (qs 0)), (1, .ref (qb 0)), (2, .int v2_16)]) hx hb dX8_take_41 rfl hl (by decide) rfl (fun ls hl => ?_)
    refine lv_iconst (v := 0) hx hb dX8_take_42 (by decide) ?_
    refine lv_istore (lv' := [(4, .int 0), (3, .int x7), (0, .ref (qs 0)), (1, .ref (qb 0)), (2, .int v2_16)]) hx hb dX8_take_43 hl (by decide) rfl (fun ls hl => ?_)
    exact J_45 fu x7 0 u6.1 u6.2 _ _ hP hS _ (lv_sub hl [2, 3, 1, 0] rfl) hf hok
  refine lv_aload_n hx hb dX8_take_0 rfl (lv_at hl 0 rfl) ?_
  refine va_get (D := (dC, dI)) (ci := 5) (v := .int (s9.1 3)) (C := RX8) (T := TX8) (N := 9) hx hb hts hin8 hown hK hP 0 rfl rfl 7 (by decide) fl35 (fun _ h9 => h9) rfl dX8_take_1 ?_
  refine lv_if_eq (tgt := 16) hx hb dX8_take_4 (by decide) (fun c1 => ?_) (fun c1 => ?_)
  · have hf := it_eq c1 hf
    have hok := it_ok c1 hok
    exact J_16 a2 s9 b _ _ hP hS _ (lv_sub hl [0, 1, 2] rfl) hf hok
  · have hf := ie_eq c1 hf
    have hok := ie_ok c1 hok
    refine lv_aload_n hx hb dX8_take_7 rfl (lv_at hl 0 rfl) ?_
    refine va_get (D := (dC, dI)) (ci := 5) (v := .int (s9.1 4)) (C := RX8) (T := TX8) (N := 9) hx hb hts hin8 hown hK hP 0 rfl rfl 8 (by decide) fl39 (fun _ h9 => h9) rfl dX8_take_8 ?_
    refine lv_iload_n hx hb dX8_take_11 rfl (lv_at hl 2 rfl) ?_
    refine lv_icmp_ne (tgt := 16) hx hb dX8_take_12 (by decide) (fun c16 => ?_) (fun c16 => ?_)
    · have hf := ie_eq c16 hf
      have hok := ie_ok c16 hok
      exact J_16 a2 s9 b _ _ hP hS _ (lv_sub hl [0, 1, 2] rfl) hf hok
    · have hf := it_eq c16 hf
      exact e_mv C0 (hf.symm.trans hF) hP hS dX8_take_15
noncomputable def pX8_sumOfTied_L53 (s9 : SS) (b : BS) (q_5 : Bool → Int32 → Int32 → Int32) (v2_53 : Bool) (v3_53 : Int32) (v4_53 : Int32) : Int32 := lt (v4_53 + 1) fun (x5 : Int32) => q_5 v2_53 v3_53 x5
def kX8_sumOfTied_L53 (s9 : SS) (b : BS) (Q_5 : Bool → Int32 → Int32 → Prop) (v2_53 : Bool) (v3_53 : Int32) (v4_53 : Int32) : Prop := lt (v4_53 + 1) fun (x5 : Int32) => Q_5 v2_53 v3_53 x5
noncomputable def pX8_sumOfTied_L51 (s9 : SS) (b : BS) (q_5 : Bool → Int32 → Int32 → Int32) (v2_51 : Bool) (v4_51 : Int32) (t0_51 : Int32) (t1_51 : Int32) : Int32 := lt (t0_51 + t1_51) fun (x8 : Int32) => pX8_sumOfTied_L53 s9 b q_5 v2_51 x8 v4_51
def kX8_sumOfTied_L51 (s9 : SS) (b : BS) (Q_5 : Bool → Int32 → Int32 → Prop) (v2_51 : Bool) (v4_51 : Int32) (t0_51 : Int32) (t1_51 : Int32) : Prop := lt (t0_51 + t1_51) fun (x8 : Int32) => kX8_sumOfTied_L53 s9 b Q_5 v2_51 x8 v4_51
noncomputable def bX8_sumOfTied_L5 (s9 : SS) (b : BS)  (q_5 : Bool → Int32 → Int32 → Int32) (v2_5 : Bool) (v3_5 : Int32) (v4_5 : Int32) : Int32 := if (pX2_cellCount b) ≤ v4_5 then (v3_5) else (if (pX8_votesOf s9 v4_5) = (pX8_votesOf s9 (s9.1 1)) then (if v2_5 = true then (pX8_sumOfTied_L51 s9 b q_5 v2_5 v4_5 v3_5 (pX2_rowOf b v4_5)) else (pX8_sumOfTied_L51 s9 b q_5 v2_5 v4_5 v3_5 (pX2_columnOf b v4_5))) else (pX8_sumOfTied_L53 s9 b q_5 v2_5 v3_5 v4_5))
noncomputable def pX8_sumOfTied_L5 (s9 : SS) (b : BS)  : Nat → Bool → Int32 → Int32 → Int32
  | 0 => fun _ _ _ => (0)
  | n + 1 => bX8_sumOfTied_L5 s9 b  (pX8_sumOfTied_L5 s9 b  n)
def kbX8_sumOfTied_L5 (s9 : SS) (b : BS)  (Q_5 : Bool → Int32 → Int32 → Prop) (v2_5 : Bool) (v3_5 : Int32) (v4_5 : Int32) : Prop := if (pX2_cellCount b) ≤ v4_5 then (True) else ((kX8_votesOf s9 v4_5) ∧ ((kX8_votesOf s9 (s9.1 1)) ∧ (if (pX8_votesOf s9 v4_5) = (pX8_votesOf s9 (s9.1 1)) then (if v2_5 = true then ((kX2_rowOf b v4_5) ∧ (kX8_sumOfTied_L51 s9 b Q_5 v2_5 v4_5 v3_5 (pX2_rowOf b v4_5))) else ((kX2_columnOf b v4_5) ∧ (kX8_sumOfTied_L51 s9 b Q_5 v2_5 v4_5 v3_5 (pX2_columnOf b v4_5)))) else (kX8_sumOfTied_L53 s9 b Q_5 v2_5 v3_5 v4_5))))
noncomputable def kX8_sumOfTied_L5 (s9 : SS) (b : BS)  : Nat → Bool → Int32 → Int32 → Prop
  | 0 => fun _ _ _ => False
  | n + 1 => kbX8_sumOfTied_L5 s9 b  (kX8_sumOfTied_L5 s9 b  n)
noncomputable def pX8_sumOfTied (s9 : SS) (b : BS) (a2 : Bool) : Int32 := pX8_sumOfTied_L5 s9 b fu a2 0 0
def kX8_sumOfTied (s9 : SS) (b : BS) (a2 : Bool) : Prop := kX8_sumOfTied_L5 s9 b fu a2 0 0
abbrev rX8_sumOfTied : Room := { frames := 2, cells := 0, slots := 0, locals := 43 }
set_option maxHeartbeats 4000000 in
set_option maxRecDepth 100000 in
theorem mX8_sumOfTied (l : Launch) (dC : Nat → ClassId) (dI : Nat → Nat → Nat) (cI cB cO cL : ClassId) (qs : Nat → Nat) (qb : Nat → Nat) (s9 : SS) (b : BS) (a2 : Bool) (hok : kX8_sumOfTied s9 b a2) : Met l yX8_sumOfTied wsX8_sumOfTied rX8_sumOfTied (cP (dC, dI) (tYS cI cB cO cL) (sw qs cI s9 ++ bw qb cI b) [.ref (qs 0), .ref (qb 0), .int (bz a2)]) (gRi (pX8_sumOfTied s9 b a2)) 0 0 (fun _ => False) := by
  refine cMet (cc := cX8_sumOfTied) (maxL := 5) (ret := some .int) [(0, .ref (qs 0)), (1, .ref (qb 0)), (2, .int (bz a2))] (by decide) rfl rfl rfl ?_
  intro p e s mi below meth c C0 hK hE hP ls hl
  obtain ⟨hx, hb, hr, hml, hown, hts, hlocks⟩ := id C0
  have hown : s.vm.findClass RX8 = some mi.cls := hown
  obtain ⟨F, hF⟩ : ∃ F, F = pX8_sumOfTied s9 b a2 := ⟨_, rfl⟩
  have hf := hF
  have hin8 : ∀ w ∈ u_ws RX8 TX8 9, w ∈ wsX8_sumOfTied := by decide +kernel
  have fl29 := hts (.fieldLink RX8 29 "ClickBench$Survey" "best" "I") (by decide +kernel)
  have J_5 : ∀ (n_5 : Nat) (v2_5 : Bool) (v3_5 : Int32) (v4_5 : Int32), ∀ ls : Array Slot, lv_has ls 5 [(0, .ref (qs 0)), (1, .ref (qb 0)), (2, .int (bz v2_5)), (3, .int v3_5), (4, .int v4_5)] → F = pX8_sumOfTied_L5 s9 b n_5 v2_5 v3_5 v4_5 → kX8_sumOfTied_L5 s9 b n_5 v2_5 v3_5 v4_5 → W p l e rX8_sumOfTied s mi ([.ref (qs 0), .ref (qb 0), .int (bz a2)] : List Value).toArray below meth c s.heap [] 0 0 (MQ below (gRi (pX8_sumOfTied s9 b a2)) ([.ref (qs 0), .ref (qb 0), .int (bz a2)] : List Value).toArray s 0 0 (fun _ => False)) (F0 mi 5 ls []) := by
    intro n_5
    induction n_5 with
    | zero =>
      intro v2_5 v3_5 v4_5 ls hl hf hok
      exact absurd hok (fun h => h)
    | succ n_5 ih_5 =>
      have J_53 : ∀ (v2_53 : Bool) (v3_53 : Int32) (v4_53 : Int32), ∀ ls : Array Slot, lv_has ls 5 [(0, .ref (qs 0)), (1, .ref (qb 0)), (2, .int (bz v2_53)), (3, .int v3_53), (4, .int v4_53)] → F = pX8_sumOfTied_L53 s9 b (pX8_sumOfTied_L5 s9 b n_5) v2_53 v3_53 v4_53 → kX8_sumOfTied_L53 s9 b (kX8_sumOfTied_L5 s9 b n_5) v2_53 v3_53 v4_53 → W p l e rX8_sumOfTied s mi ([.ref (qs 0), .ref (qb 0), .int (bz a2)] : List Value).toArray below meth c s.heap [] 0 0 (MQ below (gRi (pX8_sumOfTied s9 b a2)) ([.ref (qs 0), .ref (qb 0), .int (bz a2)] : List Value).toArray s 0 0 (fun _ => False)) (F0 mi 53 ls []) := by
        intro v2_53 v3_53 v4_53 ls hl hf hok
        obtain ⟨x5, ex5⟩ : ∃ y : Int32, y = v4_53 + 1 := ⟨_, rfl⟩
        refine lv_iinc (v := x5) (lv' := [(4, .int x5), (0, .ref (qs 0)), (1, .ref (qb 0)), (2, .int (bz v2_53)), (3, .int v3_53)]) hx hb dX8_sumOfTied_53 hl (k := 4) rfl (by rw [ex5]; rfl) (by decide) rfl (fun ls hl => ?_)
        have hf := lt_eq ex5 hf
        have hok := lt_ok ex5 hok
        refine lv_goto (tgt := 5) hx hb dX8_sumOfTied_56 (by decide) ?_
        exact ih_5 v2_53 v3_53 x5 _ (lv_sub hl [1, 2, 3, 4, 0] rfl) hf hok
      have J_51 : ∀ (v2_51 : Bool) (v4_51 : Int32) (t0_51 : Int32) (t1_51 : Int32), ∀ ls : Array Slot, lv_has ls 5 [(0, .ref (qs 0)), (1, .ref (qb 0)), (2, .int (bz v2_51)), (4, .int v4_51)] → F = pX8_sumOfTied_L51 s9 b (pX8_sumOfTied_L5 s9 b n_5) v2_51 v4_51 t0_51 t1_51 → kX8_sumOfTied_L51 s9 b (kX8_sumOfTied_L5 s9 b n_5) v2_51 v4_51 t0_51 t1_51 → W p l e rX8_sumOfTied s mi ([.ref (qs 0), .ref (qb 0), .int (bz a2)] : List Value).toArray below meth c s.heap [] 0 0 (MQ below (gRi (pX8_sumOfTied s9 b a2)) ([.ref (qs 0), .ref (qb 0), .int (bz a2)] : List Value).toArray s 0 0 (fun _ => False)) (F0 mi 51 ls [.int t1_51, .int t0_51]) := by
        intro v2_51 v4_51 t0_51 t1_51 ls hl hf hok
        refine lv_iadd hx hb dX8_sumOfTied_51 ?_
        refine lv_topi (fun x8 ex8 => ?_)
        have hf := lt_eq ex8 hf
        have hok := lt_ok ex8 hok
        refine lv_istore_n (lv' := [(3, .int x8), (0, .ref (qs 0)), (1, .ref (qb 0)), (2, .int (bz v2_51)), (4, .int v4_51)]) hx hb dX8_sumOfTied_52 rfl hl (by decide) rfl (fun ls hl => ?_)
        exact J_53 v2_51 x8 v4_51 _ (lv_sub hl [1, 2, 3, 0, 4] rfl) hf hok
      intro v2_5 v3_5 v4_5 ls hl hf hok
      have hf : F = bX8_sumOfTied_L5 s9 b (pX8_sumOfTied_L5 s9 b n_5) v2_5 v3_5 v4_5 := hf
      have hok : kbX8_sumOfTied_L5 s9 b (kX8_sumOfTied_L5 s9 b n_5) v2_5 v3_5 v4_5 := hok
      refine lv_iload hx hb dX8_sumOfTied_5 (lv_at hl 4 rfl) ?_
      refine lv_aload_n hx hb dX8_sumOfTied_7 rfl (lv_at hl 1 rfl) ?_
      have hPc := hP.sub (ws' := bw qb cI b) [5, 6, 7, 8, 9, 10, 11, 12, 13] rfl
      refine gro_i (va_runV (As := []) (rest := [.int v4_5]) ⟨hx, hb, hml, hown, hts⟩ (mX2_cellCount l dC dI cI cB cO cL qb b  ) (cwV 0 hts gX8_sumOfTied_X2_cellCount rfl rfl rfl (by decide +kernel) ⟨Nat.le_of_ble_eq_true rfl, Nat.le_of_ble_eq_true rfl⟩) ⟨cP_blind, va_recv hK hPc (ci := 1) (q0 := 0) rfl rfl, cP_ok hPc hK hE⟩ rfl rfl hl.1 rfl (lv_room (Nat.le_of_ble_eq_true rfl)) dX8_sumOfTied_8 ⟨Nat.zero_le _, Nat.zero_le _⟩) ?_
      refine lv_icmp_ge (tgt := 59) hx hb dX8_sumOfTied_11 (by decide) (fun c1 => ?_) (fun c1 => ?_)
      · have hf := it_eq c1 hf
        refine lv_iload_n hx hb dX8_sumOfTied_59 rfl (lv_at hl 3 rfl) ?_
        exact e_ri C0 (hf.symm.trans hF) dX8_sumOfTied_60
      · have hf := ie_eq c1 hf
        have hok := ie_ok c1 hok
        refine lv_aload_n hx hb dX8_sumOfTied_14 rfl (lv_at hl 0 rfl) ?_
        refine lv_iload hx hb dX8_sumOfTied_15 (lv_at hl 4 rfl) ?_
        obtain ⟨h2, hok⟩ := hok
        have hPc := hP.sub (ws' := sw qs cI s9) [0, 1, 2, 3, 4] rfl
        refine gro_i (va_runV (As := [.int v4_5]) (rest := []) ⟨hx, hb, hml, hown, hts⟩ (mX8_votesOf l dC dI cI cB cO cL qs s9 v4_5  h2) (cwV 1 hts gX8_sumOfTied_X8_votesOf rfl rfl rfl (by decide +kernel) ⟨Nat.le_of_ble_eq_true rfl, Nat.le_of_ble_eq_true rfl⟩) ⟨cP_blind, va_recv hK hPc (ci := 5) (q0 := 0) rfl rfl, cP_ok hPc hK hE⟩ rfl rfl hl.1 rfl (lv_room (Nat.le_of_ble_eq_true rfl)) dX8_sumOfTied_17 ⟨Nat.zero_le _, Nat.zero_le _⟩) ?_
        refine lv_aload_n hx hb dX8_sumOfTied_20 rfl (lv_at hl 0 rfl) ?_
        refine lv_aload_n hx hb dX8_sumOfTied_21 rfl (lv_at hl 0 rfl) ?_
        refine va_get (D := (dC, dI)) (ci := 5) (v := .int (s9.1 1)) (C := RX8) (T := TX8) (N := 9) hx hb hts hin8 hown hK hP 0 rfl rfl 5 (by decide) fl29 (fun _ h9 => h9) rfl dX8_sumOfTied_22 ?_
        obtain ⟨h3, hok⟩ := hok
        have hPc := hP.sub (ws' := sw qs cI s9) [0, 1, 2, 3, 4] rfl
        refine gro_i (va_runV (As := [.int (s9.1 1)]) (rest := [.int (pX8_votesOf s9 v4_5)]) ⟨hx, hb, hml, hown, hts⟩ (mX8_votesOf l dC dI cI cB cO cL qs s9 (s9.1 1)  h3) (cwV 1 hts gX8_sumOfTied_X8_votesOf rfl rfl rfl (by decide +kernel) ⟨Nat.le_of_ble_eq_true rfl, Nat.le_of_ble_eq_true rfl⟩) ⟨cP_blind, va_recv hK hPc (ci := 5) (q0 := 0) rfl rfl, cP_ok hPc hK hE⟩ rfl rfl hl.1 rfl (lv_room (Nat.le_of_ble_eq_true rfl)) dX8_sumOfTied_25 ⟨Nat.zero_le _, Nat.zero_le _⟩) ?_
        refine lv_icmp_ne (tgt := 53) hx hb dX8_sumOfTied_28 (by decide) (fun c4 => ?_) (fun c4 => ?_)
        · have hf := ie_eq c4 hf
          have hok := ie_ok c4 hok
          exact J_53 v2_5 v3_5 v4_5 _ (lv_sub hl [0, 1, 2, 3, 4] rfl) hf hok
        · have hf := it_eq c4 hf
          have hok := it_ok c4 hok
          refine lv_iload_n hx hb dX8_sumOfTied_31 rfl (lv_at hl 3 rfl) ?_
          refine lv_iload_n hx hb dX8_sumOfTied_32 rfl (lv_at hl 2 rfl) ?_
          refine lv_if_eq (tgt := 45) hx hb dX8_sumOfTied_33 (by decide) (fun c6 => ?_) (fun c6 => ?_)
          · have c6 := bz_f c6
            have hf := ie_eq c6 hf
            have hok := ie_ok c6 hok
            refine lv_aload_n hx hb dX8_sumOfTied_45 rfl (lv_at hl 1 rfl) ?_
            refine lv_iload hx hb dX8_sumOfTied_46 (lv_at hl 4 rfl) ?_
            obtain ⟨h7, hok⟩ := hok
            have hPc := hP.sub (ws' := bw qb cI b) [5, 6, 7, 8, 9, 10, 11, 12, 13] rfl
            refine gro_i (va_runV (As := [.int v4_5]) (rest := [.int v3_5]) ⟨hx, hb, hml, hown, hts⟩ (mX2_columnOf l dC dI cI cB cO cL qb b v4_5  h7) (cwV 1 hts gX8_sumOfTied_X2_columnOf rfl rfl rfl (by decide +kernel) ⟨Nat.le_of_ble_eq_true rfl, Nat.le_of_ble_eq_true rfl⟩) ⟨cP_blind, va_recv hK hPc (ci := 1) (q0 := 0) rfl rfl, cP_ok hPc hK hE⟩ rfl rfl hl.1 rfl (lv_room (Nat.le_of_ble_eq_true rfl)) dX8_sumOfTied_48 ⟨Nat.zero_le _, Nat.zero_le _⟩) ?_
            exact J_51 v2_5 v4_5 v3_5 (pX2_columnOf b v4_5) _ (lv_sub hl [0, 1, 2, 4] rfl) hf hok
          · have c6 := bz_t c6
            have hf := it_eq c6 hf
            have hok := it_ok c6 hok
            refine lv_aload_n hx hb dX8_sumOfTied_36 rfl (lv_at hl 1 rfl) ?_
            refine lv_iload hx hb dX8_sumOfTied_37 (lv_at hl 4 rfl) ?_
            obtain ⟨h9, hok⟩ := hok
            have hPc := hP.sub (ws' := bw qb cI b) [5, 6, 7, 8, 9, 10, 11, 12, 13] rfl
            refine gro_i (va_runV (As := [.int v4_5]) (rest := [.int v3_5]) ⟨hx, hb, hml, hown, hts⟩ (mX2_rowOf l dC dI cI cB cO cL qb b v4_5  h9) (cwV 1 hts gX8_sumOfTied_X2_rowOf rfl rfl rfl (by decide +kernel) ⟨Nat.le_of_ble_eq_true rfl, Nat.le_of_ble_eq_true rfl⟩) ⟨cP_blind, va_recv hK hPc (ci := 1) (q0 := 0) rfl rfl, cP_ok hPc hK hE⟩ rfl rfl hl.1 rfl (lv_room (Nat.le_of_ble_eq_true rfl)) dX8_sumOfTied_39 ⟨Nat.zero_le _, Nat.zero_le _⟩) ?_
            refine lv_goto (tgt := 51) hx hb dX8_sumOfTied_42 (by decide) ?_
            exact J_51 v2_5 v4_5 v3_5 (pX2_rowOf b v4_5) _ (lv_sub hl [0, 1, 2, 4] rfl) hf hok
  refine lv_iconst (v := 0) hx hb dX8_sumOfTied_0 (by decide) ?_
  refine lv_istore_n (lv' := [(3, .int 0), (0, .ref (qs 0)), (1, .ref (qb 0)), (2, .int (bz a2))]) hx hb dX8_sumOfTied_1 rfl hl (by decide) rfl (fun ls hl => ?_)
  refine lv_iconst (v := 0) hx hb dX8_sumOfTied_2 (by decide) ?_
  refine lv_istore (lv' := [(4, .int 0), (3, .int 0), (0, .ref (qs 0)), (1, .ref (qb 0)), (2, .int (bz a2))]) hx hb dX8_sumOfTied_3 hl (by decide) rfl (fun ls hl => ?_)
  exact J_5 fu a2 0 0 _ (lv_sub hl [2, 3, 4, 1, 0] rfl) hf hok
noncomputable def pX8_blameOf_L107  (q_34 : Int32 → Int32 → Int32 → Int32 → SS → BS → (Int32 × SS × BS)) (q_49 : Int32 → Int32 → Int32 → Int32 → Int32 → SS → BS → (Int32 × SS × BS)) (v2_107 : Int32) (v3_107 : Int32) (v4_107 : Int32) (v5_107 : Int32) (v6_107 : Int32) (s9_107 : SS) (b_107 : BS) : Int32 × SS × BS := lt (v6_107 + 1) fun (x13 : Int32) => q_49 v2_107 v3_107 v4_107 v5_107 x13 s9_107 b_107
def kX8_blameOf_L107  (Q_34 : Int32 → Int32 → Int32 → Int32 → SS → BS → Prop) (Q_49 : Int32 → Int32 → Int32 → Int32 → Int32 → SS → BS → Prop) (v2_107 : Int32) (v3_107 : Int32) (v4_107 : Int32) (v5_107 : Int32) (v6_107 : Int32) (s9_107 : SS) (b_107 : BS) : Prop := lt (v6_107 + 1) fun (x13 : Int32) => Q_49 v2_107 v3_107 v4_107 v5_107 x13 s9_107 b_107
noncomputable def pX8_blameOf_L85  (q_34 : Int32 → Int32 → Int32 → Int32 → SS → BS → (Int32 × SS × BS)) (q_49 : Int32 → Int32 → Int32 → Int32 → Int32 → SS → BS → (Int32 × SS × BS)) (v2_85 : Int32) (v3_85 : Int32) (v4_85 : Int32) (v5_85 : Int32) (v6_85 : Int32) (t0_85 : Bool) (s9_85 : SS) (b_85 : BS) : Int32 × SS × BS := if t0_85 = true then (if (pX8_gapOf s9_85 v5_85 v6_85) ≤ v3_85 then (pX8_blameOf_L107 q_34 q_49 v2_85 v3_85 v4_85 v5_85 v6_85 s9_85 b_85) else (lt (v4_85 + 1) fun (x16 : Int32) => pX8_blameOf_L107 q_34 q_49 v2_85 v3_85 x16 v5_85 v6_85 s9_85 b_85)) else (pX8_blameOf_L107 q_34 q_49 v2_85 v3_85 v4_85 v5_85 v6_85 s9_85 b_85)
def kX8_blameOf_L85  (Q_34 : Int32 → Int32 → Int32 → Int32 → SS → BS → Prop) (Q_49 : Int32 → Int32 → Int32 → Int32 → Int32 → SS → BS → Prop) (v2_85 : Int32) (v3_85 : Int32) (v4_85 : Int32) (v5_85 : Int32) (v6_85 : Int32) (t0_85 : Bool) (s9_85 : SS) (b_85 : BS) : Prop := if t0_85 = true then ((kX8_gapOf s9_85 v5_85 v6_85) ∧ (if (pX8_gapOf s9_85 v5_85 v6_85) ≤ v3_85 then (kX8_blameOf_L107 Q_34 Q_49 v2_85 v3_85 v4_85 v5_85 v6_85 s9_85 b_85) else (lt (v4_85 + 1) fun (x16 : Int32) => kX8_blameOf_L107 Q_34 Q_49 v2_85 v3_85 x16 v5_85 v6_85 s9_85 b_85))) else (kX8_blameOf_L107 Q_34 Q_49 v2_85 v3_85 v4_85 v5_85 v6_85 s9_85 b_85)
noncomputable def pX8_blameOf_L80  (q_34 : Int32 → Int32 → Int32 → Int32 → SS → BS → (Int32 × SS × BS)) (q_49 : Int32 → Int32 → Int32 → Int32 → Int32 → SS → BS → (Int32 × SS × BS)) (v2_80 : Int32) (v3_80 : Int32) (v4_80 : Int32) (v5_80 : Int32) (v6_80 : Int32) (s9_80 : SS) (b_80 : BS) : Int32 × SS × BS := pX8_blameOf_L85 q_34 q_49 v2_80 v3_80 v4_80 v5_80 v6_80 true s9_80 b_80
def kX8_blameOf_L80  (Q_34 : Int32 → Int32 → Int32 → Int32 → SS → BS → Prop) (Q_49 : Int32 → Int32 → Int32 → Int32 → Int32 → SS → BS → Prop) (v2_80 : Int32) (v3_80 : Int32) (v4_80 : Int32) (v5_80 : Int32) (v6_80 : Int32) (s9_80 : SS) (b_80 : BS) : Prop := kX8_blameOf_L85 Q_34 Q_49 v2_80 v3_80 v4_80 v5_80 v6_80 true s9_80 b_80
noncomputable def bX8_blameOf_L49  (q_34 : Int32 → Int32 → Int32 → Int32 → SS → BS → (Int32 × SS × BS)) (q_49 : Int32 → Int32 → Int32 → Int32 → Int32 → SS → BS → (Int32 × SS × BS)) (v2_49 : Int32) (v3_49 : Int32) (v4_49 : Int32) (v5_49 : Int32) (v6_49 : Int32) (s9_49 : SS) (b_49 : BS) : Int32 × SS × BS := if (s9_49.1 0) ≤ v6_49 then (lt (v5_49 + 1) fun (x10 : Int32) => q_34 v2_49 v3_49 v4_49 x10 s9_49 b_49) else (if ((s9_49.2 2) v5_49.toNatClampNeg) = v2_49 then (pX8_blameOf_L80 q_34 q_49 v2_49 v3_49 v4_49 v5_49 v6_49 s9_49 b_49) else (if ((s9_49.2 2) v6_49.toNatClampNeg) = v2_49 then (pX8_blameOf_L80 q_34 q_49 v2_49 v3_49 v4_49 v5_49 v6_49 s9_49 b_49) else (pX8_blameOf_L85 q_34 q_49 v2_49 v3_49 v4_49 v5_49 v6_49 false s9_49 b_49)))
noncomputable def pX8_blameOf_L49  (q_34 : Int32 → Int32 → Int32 → Int32 → SS → BS → (Int32 × SS × BS)) : Nat → Int32 → Int32 → Int32 → Int32 → Int32 → SS → BS → (Int32 × SS × BS)
  | 0 => fun _ _ _ _ _ s9_49 b_49 => (0, s9_49, b_49)
  | n + 1 => bX8_blameOf_L49  q_34 (pX8_blameOf_L49  q_34 n)
def kbX8_blameOf_L49  (Q_34 : Int32 → Int32 → Int32 → Int32 → SS → BS → Prop) (Q_49 : Int32 → Int32 → Int32 → Int32 → Int32 → SS → BS → Prop) (v2_49 : Int32) (v3_49 : Int32) (v4_49 : Int32) (v5_49 : Int32) (v6_49 : Int32) (s9_49 : SS) (b_49 : BS) : Prop := if (s9_49.1 0) ≤ v6_49 then (lt (v5_49 + 1) fun (x10 : Int32) => Q_34 v2_49 v3_49 v4_49 x10 s9_49 b_49) else ((vp_in v5_49 8) ∧ (if ((s9_49.2 2) v5_49.toNatClampNeg) = v2_49 then (kX8_blameOf_L80 Q_34 Q_49 v2_49 v3_49 v4_49 v5_49 v6_49 s9_49 b_49) else ((vp_in v6_49 8) ∧ (if ((s9_49.2 2) v6_49.toNatClampNeg) = v2_49 then (kX8_blameOf_L80 Q_34 Q_49 v2_49 v3_49 v4_49 v5_49 v6_49 s9_49 b_49) else (kX8_blameOf_L85 Q_34 Q_49 v2_49 v3_49 v4_49 v5_49 v6_49 false s9_49 b_49)))))
noncomputable def kX8_blameOf_L49  (Q_34 : Int32 → Int32 → Int32 → Int32 → SS → BS → Prop) : Nat → Int32 → Int32 → Int32 → Int32 → Int32 → SS → BS → Prop
  | 0 => fun _ _ _ _ _ _ _ => False
  | n + 1 => kbX8_blameOf_L49  Q_34 (kX8_blameOf_L49  Q_34 n)
noncomputable def bX8_blameOf_L34   (q_34 : Int32 → Int32 → Int32 → Int32 → SS → BS → (Int32 × SS × BS)) (v2_34 : Int32) (v3_34 : Int32) (v4_34 : Int32) (v5_34 : Int32) (s9_34 : SS) (b_34 : BS) : Int32 × SS × BS := if (s9_34.1 0) ≤ v5_34 then ((v4_34, s9_34, b_34)) else (lt (v5_34 + 1) fun (x8 : Int32) => pX8_blameOf_L49 q_34 fu v2_34 v3_34 v4_34 v5_34 x8 s9_34 b_34)
noncomputable def pX8_blameOf_L34   : Nat → Int32 → Int32 → Int32 → Int32 → SS → BS → (Int32 × SS × BS)
  | 0 => fun _ _ _ _ s9_34 b_34 => (0, s9_34, b_34)
  | n + 1 => bX8_blameOf_L34   (pX8_blameOf_L34   n)
def kbX8_blameOf_L34   (Q_34 : Int32 → Int32 → Int32 → Int32 → SS → BS → Prop) (v2_34 : Int32) (v3_34 : Int32) (v4_34 : Int32) (v5_34 : Int32) (s9_34 : SS) (b_34 : BS) : Prop := if (s9_34.1 0) ≤ v5_34 then (True) else (lt (v5_34 + 1) fun (x8 : Int32) => kX8_blameOf_L49 Q_34 fu v2_34 v3_34 v4_34 v5_34 x8 s9_34 b_34)
noncomputable def kX8_blameOf_L34   : Nat → Int32 → Int32 → Int32 → Int32 → SS → BS → Prop
  | 0 => fun _ _ _ _ _ _ => False
  | n + 1 => kbX8_blameOf_L34   (kX8_blameOf_L34   n)
noncomputable def pX8_blameOf (s9 : SS) (b : BS) (a2 : Int32) : Int32 × SS × BS := if (s9.1 1) = (-1000000000) then (((-1000000000), s9, b)) else (lt (pX8_traceStarts s9 b (s9.1 1)) fun (u4 : SS × BS) => lt (pX2_setting u4.2 6) fun (x6 : Int32) => pX8_blameOf_L34 fu a2 x6 0 0 u4.1 u4.2)
def kX8_blameOf (s9 : SS) (b : BS) (a2 : Int32) : Prop := if (s9.1 1) = (-1000000000) then (True) else ((kX8_traceStarts s9 b (s9.1 1)) ∧ (lt (pX8_traceStarts s9 b (s9.1 1)) fun (u4 : SS × BS) => (kX2_setting u4.2 6) ∧ (lt (pX2_setting u4.2 6) fun (x6 : Int32) => kX8_blameOf_L34 fu a2 x6 0 0 u4.1 u4.2)))
abbrev rX8_blameOf : Room := { frames := 4, cells := 0, slots := 0, locals := 96 }
set_option maxHeartbeats 4000000 in
set_option maxRecDepth 100000 in
theorem mX8_blameOf (l : Launch) (dC : Nat → ClassId) (dI : Nat → Nat → Nat) (cI cB cO cL : ClassId) (qs : Nat → Nat) (qb : Nat → Nat) (s9 : SS) (b : BS) (a2 : Int32) (hI : gD (fun _ => True) (sAd qs ++ bAd qb)) (hok : kX8_blameOf s9 b a2) : Met l yX8_blameOf wsX8_blameOf rX8_blameOf (cP (dC, dI) (tYS cI cB cO cL) (sw qs cI s9 ++ bw qb cI b) [.ref (qs 0), .ref (qb 0), .int a2]) (gQi (dC, dI) (fun z9 : SS × BS => sw qs cI z9.1 ++ bw qb cI z9.2) (wA (sw qs cI s9 ++ bw qb cI b)) (pX8_blameOf s9 b a2)) 0 0 (wA (sw qs cI s9 ++ bw qb cI b)) := by
  refine cMet (cc := cX8_blameOf) (maxL := 8) (ret := some .int) [(0, .ref (qs 0)), (1, .ref (qb 0)), (2, .int a2)] (by decide) rfl rfl rfl ?_
  intro p e s mi below meth c C0 hK hE hP ls hl
  obtain ⟨hx, hb, hr, hml, hown, hts, hlocks⟩ := id C0
  have hown : s.vm.findClass RX8 = some mi.cls := hown
  have hS : va_S (wA (sw qs cI s9 ++ bw qb cI b)) s.heap s.heap [] := va_S.rf
  have hD : gD (wA (sw qs cI s9 ++ bw qb cI b)) (sAd qs ++ bAd qb) := gD_wA (ws := sw qs cI s9 ++ bw qb cI b) hI
  have hP : va_P (dC, dI) vwCl (sw qs cI s9 ++ bw qb cI b) s.heap := hP
  obtain ⟨F, hF⟩ : ∃ F, F = pX8_blameOf s9 b a2 := ⟨_, rfl⟩
  have hf := hF
  have hin8 : ∀ w ∈ u_ws RX8 TX8 9, w ∈ wsX8_blameOf := by decide +kernel
  have fl29 := hts (.fieldLink RX8 29 "ClickBench$Survey" "best" "I") (by decide +kernel)
  have cn28 := hts (.constant RX8 28 (-1000000000)) (by decide +kernel)
  have fl24 := hts (.fieldLink RX8 24 "ClickBench$Survey" "hearerCount" "I") (by decide +kernel)
  have fl18 := hts (.fieldLink RX8 18 "ClickBench$Survey" "hearers" "[I") (by decide +kernel)
  have J_34 : ∀ (n_34 : Nat) (v2_34 : Int32) (v3_34 : Int32) (v4_34 : Int32) (v5_34 : Int32) (s9_34 : SS) (b_34 : BS) (H : Heap) (locs : List Loc), va_P (dC, dI) vwCl (sw qs cI s9_34 ++ bw qb cI b_34) H → va_S (wA (sw qs cI s9 ++ bw qb cI b)) s.heap H locs → ∀ ls : Array Slot, lv_has ls 8 [(0, .ref (qs 0)), (2, .int v2_34), (3, .int v3_34), (4, .int v4_34), (5, .int v5_34)] → F = pX8_blameOf_L34 n_34 v2_34 v3_34 v4_34 v5_34 s9_34 b_34 → kX8_blameOf_L34 n_34 v2_34 v3_34 v4_34 v5_34 s9_34 b_34 → W p l e rX8_blameOf s mi ([.ref (qs 0), .ref (qb 0), .int a2] : List Value).toArray below meth c H locs 0 0 (MQ below (gQi (dC, dI) (fun z9 : SS × BS => sw qs cI z9.1 ++ bw qb cI z9.2) (wA (sw qs cI s9 ++ bw qb cI b)) (pX8_blameOf s9 b a2)) ([.ref (qs 0), .ref (qb 0), .int a2] : List Value).toArray s 0 0 (wA (sw qs cI s9 ++ bw qb cI b))) (F0 mi 34 ls []) := by
    intro n_34
    induction n_34 with
    | zero =>
      intro v2_34 v3_34 v4_34 v5_34 s9_34 b_34 H locs hP hS ls hl hf hok
      exact absurd hok (fun h => h)
    | succ n_34 ih_34 =>
      have J_49 : ∀ (n_49 : Nat) (v2_49 : Int32) (v3_49 : Int32) (v4_49 : Int32) (v5_49 : Int32) (v6_49 : Int32) (s9_49 : SS) (b_49 : BS) (H : Heap) (locs : List Loc), va_P (dC, dI) vwCl (sw qs cI s9_49 ++ bw qb cI b_49) H → va_S (wA (sw qs cI s9 ++ bw qb cI b)) s.heap H locs → ∀ ls : Array Slot, lv_has ls 8 [(0, .ref (qs 0)), (2, .int v2_49), (3, .int v3_49), (4, .int v4_49), (5, .int v5_49), (6, .int v6_49)] → F = pX8_blameOf_L49 (pX8_blameOf_L34 n_34) n_49 v2_49 v3_49 v4_49 v5_49 v6_49 s9_49 b_49 → kX8_blameOf_L49 (kX8_blameOf_L34 n_34) n_49 v2_49 v3_49 v4_49 v5_49 v6_49 s9_49 b_49 → W p l e rX8_blameOf s mi ([.ref (qs 0), .ref (qb 0), .int a2] : List Value).toArray below meth c H locs 0 0 (MQ below (gQi (dC, dI) (fun z9 : SS × BS => sw qs cI z9.1 ++ bw qb cI z9.2) (wA (sw qs cI s9 ++ bw qb cI b)) (pX8_blameOf s9 b a2)) ([.ref (qs 0), .ref (qb 0), .int a2] : List Value).toArray s 0 0 (wA (sw qs cI s9 ++ bw qb cI b))) (F0 mi 49 ls []) := by
        intro n_49
        induction n_49 with
        | zero =>
          intro v2_49 v3_49 v4_49 v5_49 v6_49 s9_49 b_49 H locs hP hS ls hl hf hok
          exact absurd hok (fun h => h)
        | succ n_49 ih_49 =>
          have J_107 : ∀ (v2_107 : Int32) (v3_107 : Int32) (v4_107 : Int32) (v5_107 : Int32) (v6_107 : Int32) (s9_107 : SS) (b_107 : BS) (H : Heap) (locs : List Loc), va_P (dC, dI) vwCl (sw qs cI s9_107 ++ bw qb cI b_107) H → va_S (wA (sw qs cI s9 ++ bw qb cI b)) s.heap H locs → ∀ ls : Array Slot, lv_has ls 8 [(0, .ref (qs 0)), (2, .int v2_107), (3, .int v3_107), (4, .int v4_107), (5, .int v5_107), (6, .int v6_107)] → F = pX8_blameOf_L107 (pX8_blameOf_L34 n_34) (pX8_blameOf_L49 (pX8_blameOf_L34 n_34) n_49) v2_107 v3_107 v4_107 v5_107 v6_107 s9_107 b_107 → kX8_blameOf_L107 (kX8_blameOf_L34 n_34) (kX8_blameOf_L49 (kX8_blameOf_L34 n_34) n_49) v2_107 v3_107 v4_107 v5_107 v6_107 s9_107 b_107 → W p l e rX8_blameOf s mi ([.ref (qs 0), .ref (qb 0), .int a2] : List Value).toArray below meth c H locs 0 0 (MQ below (gQi (dC, dI) (fun z9 : SS × BS => sw qs cI z9.1 ++ bw qb cI z9.2) (wA (sw qs cI s9 ++ bw qb cI b)) (pX8_blameOf s9 b a2)) ([.ref (qs 0), .ref (qb 0), .int a2] : List Value).toArray s 0 0 (wA (sw qs cI s9 ++ bw qb cI b))) (F0 mi 107 ls []) := by
            intro v2_107 v3_107 v4_107 v5_107 v6_107 s9_107 b_107 H locs hP hS ls hl hf hok
            obtain ⟨x13, ex13⟩ : ∃ y : Int32, y = v6_107 + 1 := ⟨_, rfl⟩
            refine lv_iinc (v := x13) (lv' := [(6, .int x13), (0, .ref (qs 0)), (2, .int v2_107), (3, .int v3_107), (4, .int v4_107), (5, .int v5_107)]) hx hb dX8_blameOf_107 hl (k := 5) rfl (by rw [ex13]; rfl) (by decide) rfl (fun ls hl => ?_)
            have hf := lt_eq ex13 hf
            have hok := lt_ok ex13 hok
            refine lv_goto (tgt := 49) hx hb dX8_blameOf_110 (by decide) ?_
            exact ih_49 v2_107 v3_107 v4_107 v5_107 x13 s9_107 b_107 _ _ hP hS _ (lv_sub hl [1, 2, 3, 4, 5, 0] rfl) hf hok
          have J_85 : ∀ (v2_85 : Int32) (v3_85 : Int32) (v4_85 : Int32) (v5_85 : Int32) (v6_85 : Int32) (t0_85 : Bool) (s9_85 : SS) (b_85 : BS) (H : Heap) (locs : List Loc), va_P (dC, dI) vwCl (sw qs cI s9_85 ++ bw qb cI b_85) H → va_S (wA (sw qs cI s9 ++ bw qb cI b)) s.heap H locs → ∀ ls : Array Slot, lv_has ls 8 [(0, .ref (qs 0)), (2, .int v2_85), (3, .int v3_85), (4, .int v4_85), (5, .int v5_85), (6, .int v6_85)] → F = pX8_blameOf_L85 (pX8_blameOf_L34 n_34) (pX8_blameOf_L49 (pX8_blameOf_L34 n_34) n_49) v2_85 v3_85 v4_85 v5_85 v6_85 t0_85 s9_85 b_85 → kX8_blameOf_L85 (kX8_blameOf_L34 n_34) (kX8_blameOf_L49 (kX8_blameOf_L34 n_34) n_49) v2_85 v3_85 v4_85 v5_85 v6_85 t0_85 s9_85 b_85 → W p l e rX8_blameOf s mi ([.ref (qs 0), .ref (qb 0), .int a2] : List Value).toArray below meth c H locs 0 0 (MQ below (gQi (dC, dI) (fun z9 : SS × BS => sw qs cI z9.1 ++ bw qb cI z9.2) (wA (sw qs cI s9 ++ bw qb cI b)) (pX8_blameOf s9 b a2)) ([.ref (qs 0), .ref (qb 0), .int a2] : List Value).toArray s 0 0 (wA (sw qs cI s9 ++ bw qb cI b))) (F0 mi 85 ls [.int (bz t0_85)]) := by
            intro v2_85 v3_85 v4_85 v5_85 v6_85 t0_85 s9_85 b_85 H locs hP hS ls hl hf hok
            refine lv_istore (lv' := [(7, .int (bz t0_85)), (0, .ref (qs 0)), (2, .int v2_85), (3, .int v3_85), (4, .int v4_85), (5, .int v5_85), (6, .int v6_85)]) hx hb dX8_blameOf_85 hl (by decide) rfl (fun ls hl => ?_)
            refine lv_iload hx hb dX8_blameOf_87 (lv_at hl 0 rfl) ?_
            refine lv_if_eq (tgt := 107) hx hb dX8_blameOf_89 (by decide) (fun c12 => ?_) (fun c12 => ?_)
            · have c12 := bz_f c12
              have hf := ie_eq c12 hf
              have hok := ie_ok c12 hok
              exact J_107 v2_85 v3_85 v4_85 v5_85 v6_85 s9_85 b_85 _ _ hP hS _ (lv_sub hl [1, 2, 3, 4, 5, 6] rfl) hf hok
            · have c12 := bz_t c12
              have hf := it_eq c12 hf
              have hok := it_ok c12 hok
              refine lv_aload_n hx hb dX8_blameOf_92 rfl (lv_at hl 1 rfl) ?_
              refine lv_iload hx hb dX8_blameOf_93 (lv_at hl 5 rfl) ?_
              refine lv_iload hx hb dX8_blameOf_95 (lv_at hl 6 rfl) ?_
              obtain ⟨h14, hok⟩ := hok
              have hPc := hP.sub (ws' := sw qs cI s9_85) [0, 1, 2, 3, 4] rfl
              refine gro_i (va_runV (As := [.int v5_85, .int v6_85]) (rest := []) ⟨hx, hb, hml, hown, hts⟩ (mX8_gapOf l dC dI cI cB cO cL qs s9_85 v5_85 v6_85  h14) (cwV 2 hts gX8_blameOf_X8_gapOf rfl rfl rfl (by decide +kernel) ⟨Nat.le_of_ble_eq_true rfl, Nat.le_of_ble_eq_true rfl⟩) ⟨cP_blind, va_recv hK hPc (ci := 5) (q0 := 0) rfl rfl, cP_ok hPc hK hE⟩ rfl rfl hl.1 rfl (lv_room (Nat.le_of_ble_eq_true rfl)) dX8_blameOf_97 ⟨Nat.zero_le _, Nat.zero_le _⟩) ?_
              refine lv_iload_n hx hb dX8_blameOf_100 rfl (lv_at hl 3 rfl) ?_
              refine lv_icmp_le (tgt := 107) hx hb dX8_blameOf_101 (by decide) (fun c15 => ?_) (fun c15 => ?_)
              · have hf := it_eq c15 hf
                have hok := it_ok c15 hok
                exact J_107 v2_85 v3_85 v4_85 v5_85 v6_85 s9_85 b_85 _ _ hP hS _ (lv_sub hl [1, 2, 3, 4, 5, 6] rfl) hf hok
              · have hf := ie_eq c15 hf
                have hok := ie_ok c15 hok
                obtain ⟨x16, ex16⟩ : ∃ y : Int32, y = v4_85 + 1 := ⟨_, rfl⟩
                refine lv_iinc (v := x16) (lv' := [(4, .int x16), (7, .int (bz t0_85)), (0, .ref (qs 0)), (2, .int v2_85), (3, .int v3_85), (5, .int v5_85), (6, .int v6_85)]) hx hb dX8_blameOf_104 hl (k := 4) rfl (by rw [ex16]; rfl) (by decide) rfl (fun ls hl => ?_)
                have hf := lt_eq ex16 hf
                have hok := lt_ok ex16 hok
                exact J_107 v2_85 v3_85 x16 v5_85 v6_85 s9_85 b_85 _ _ hP hS _ (lv_sub hl [2, 3, 4, 0, 5, 6] rfl) hf hok
          have J_80 : ∀ (v2_80 : Int32) (v3_80 : Int32) (v4_80 : Int32) (v5_80 : Int32) (v6_80 : Int32) (s9_80 : SS) (b_80 : BS) (H : Heap) (locs : List Loc), va_P (dC, dI) vwCl (sw qs cI s9_80 ++ bw qb cI b_80) H → va_S (wA (sw qs cI s9 ++ bw qb cI b)) s.heap H locs → ∀ ls : Array Slot, lv_has ls 8 [(0, .ref (qs 0)), (2, .int v2_80), (3, .int v3_80), (4, .int v4_80), (5, .int v5_80), (6, .int v6_80)] → F = pX8_blameOf_L80 (pX8_blameOf_L34 n_34) (pX8_blameOf_L49 (pX8_blameOf_L34 n_34) n_49) v2_80 v3_80 v4_80 v5_80 v6_80 s9_80 b_80 → kX8_blameOf_L80 (kX8_blameOf_L34 n_34) (kX8_blameOf_L49 (kX8_blameOf_L34 n_34) n_49) v2_80 v3_80 v4_80 v5_80 v6_80 s9_80 b_80 → W p l e rX8_blameOf s mi ([.ref (qs 0), .ref (qb 0), .int a2] : List Value).toArray below meth c H locs 0 0 (MQ below (gQi (dC, dI) (fun z9 : SS × BS => sw qs cI z9.1 ++ bw qb cI z9.2) (wA (sw qs cI s9 ++ bw qb cI b)) (pX8_blameOf s9 b a2)) ([.ref (qs 0), .ref (qb 0), .int a2] : List Value).toArray s 0 0 (wA (sw qs cI s9 ++ bw qb cI b))) (F0 mi 80 ls []) := by
            intro v2_80 v3_80 v4_80 v5_80 v6_80 s9_80 b_80 H locs hP hS ls hl hf hok
            refine lv_iconst (v := 1) hx hb dX8_blameOf_80 (by decide) ?_
            refine lv_goto (tgt := 85) hx hb dX8_blameOf_81 (by decide) ?_
            exact J_85 v2_80 v3_80 v4_80 v5_80 v6_80 true s9_80 b_80 _ _ hP hS _ (lv_sub hl [0, 1, 2, 3, 4, 5] rfl) hf hok
          intro v2_49 v3_49 v4_49 v5_49 v6_49 s9_49 b_49 H locs hP hS ls hl hf hok
          have hf : F = bX8_blameOf_L49 (pX8_blameOf_L34 n_34) (pX8_blameOf_L49 (pX8_blameOf_L34 n_34) n_49) v2_49 v3_49 v4_49 v5_49 v6_49 s9_49 b_49 := hf
          have hok : kbX8_blameOf_L49 (kX8_blameOf_L34 n_34) (kX8_blameOf_L49 (kX8_blameOf_L34 n_34) n_49) v2_49 v3_49 v4_49 v5_49 v6_49 s9_49 b_49 := hok
          refine lv_iload hx hb dX8_blameOf_49 (lv_at hl 5 rfl) ?_
          refine lv_aload_n hx hb dX8_blameOf_51 rfl (lv_at hl 0 rfl) ?_
          refine va_get (D := (dC, dI)) (ci := 5) (v := .int (s9_49.1 0)) (C := RX8) (T := TX8) (N := 9) hx hb hts hin8 hown hK hP 0 rfl rfl 4 (by decide) fl24 (fun _ h9 => h9) rfl dX8_blameOf_52 ?_
          refine lv_icmp_ge (tgt := 113) hx hb dX8_blameOf_55 (by decide) (fun c9 => ?_) (fun c9 => ?_)
          · have hf := it_eq c9 hf
            have hok := it_ok c9 hok
            obtain ⟨x10, ex10⟩ : ∃ y : Int32, y = v5_49 + 1 := ⟨_, rfl⟩
            refine lv_iinc (v := x10) (lv' := [(5, .int x10), (0, .ref (qs 0)), (2, .int v2_49), (3, .int v3_49), (4, .int v4_49), (6, .int v6_49)]) hx hb dX8_blameOf_113 hl (k := 4) rfl (by rw [ex10]; rfl) (by decide) rfl (fun ls hl => ?_)
            have hf := lt_eq ex10 hf
            have hok := lt_ok ex10 hok
            refine lv_goto (tgt := 34) hx hb dX8_blameOf_116 (by decide) ?_
            exact ih_34 v2_49 v3_49 v4_49 x10 s9_49 b_49 _ _ hP hS _ (lv_sub hl [1, 2, 3, 4, 0] rfl) hf hok
          · have hf := ie_eq c9 hf
            have hok := ie_ok c9 hok
            refine lv_aload_n hx hb dX8_blameOf_58 rfl (lv_at hl 0 rfl) ?_
            refine va_get (D := (dC, dI)) (ci := 5) (v := .ref (qs 3)) (C := RX8) (T := TX8) (N := 9) hx hb hts hin8 hown hK hP 0 rfl rfl 2 (by decide) fl18 (fun _ h9 => h9) rfl dX8_blameOf_59 ?_
            refine lv_iload hx hb dX8_blameOf_62 (lv_at hl 4 rfl) ?_
            obtain ⟨h19, hok⟩ := hok
            refine va_iald (D := (dC, dI)) (tys := (tYS cI cB cO cL)) hx hb hK hP 3 0 rfl rfl h19 dX8_blameOf_64 ?_
            refine lv_iload_n hx hb dX8_blameOf_65 rfl (lv_at hl 1 rfl) ?_
            refine lv_icmp_eq (tgt := 80) hx hb dX8_blameOf_66 (by decide) (fun c11 => ?_) (fun c11 => ?_)
            · have hf := it_eq c11 hf
              have hok := it_ok c11 hok
              exact J_80 v2_49 v3_49 v4_49 v5_49 v6_49 s9_49 b_49 _ _ hP hS _ (lv_sub hl [0, 1, 2, 3, 4, 5] rfl) hf hok
            · have hf := ie_eq c11 hf
              have hok := ie_ok c11 hok
              refine lv_aload_n hx hb dX8_blameOf_69 rfl (lv_at hl 0 rfl) ?_
              refine va_get (D := (dC, dI)) (ci := 5) (v := .ref (qs 3)) (C := RX8) (T := TX8) (N := 9) hx hb hts hin8 hown hK hP 0 rfl rfl 2 (by decide) fl18 (fun _ h9 => h9) rfl dX8_blameOf_70 ?_
              refine lv_iload hx hb dX8_blameOf_73 (lv_at hl 5 rfl) ?_
              obtain ⟨h18, hok⟩ := hok
              refine va_iald (D := (dC, dI)) (tys := (tYS cI cB cO cL)) hx hb hK hP 3 0 rfl rfl h18 dX8_blameOf_75 ?_
              refine lv_iload_n hx hb dX8_blameOf_76 rfl (lv_at hl 1 rfl) ?_
              refine lv_icmp_ne (tgt := 84) hx hb dX8_blameOf_77 (by decide) (fun c17 => ?_) (fun c17 => ?_)
              · have hf := ie_eq c17 hf
                have hok := ie_ok c17 hok
                refine lv_iconst (v := 0) hx hb dX8_blameOf_84 (by decide) ?_
                exact J_85 v2_49 v3_49 v4_49 v5_49 v6_49 false s9_49 b_49 _ _ hP hS _ (lv_sub hl [0, 1, 2, 3, 4, 5] rfl) hf hok
              · have hf := it_eq c17 hf
                have hok := it_ok c17 hok
                exact J_80 v2_49 v3_49 v4_49 v5_49 v6_49 s9_49 b_49 _ _ hP hS _ (lv_sub hl [0, 1, 2, 3, 4, 5] rfl) hf hok
      intro v2_34 v3_34 v4_34 v5_34 s9_34 b_34 H locs hP hS ls hl hf hok
      have hf : F = bX8_blameOf_L34 (pX8_blameOf_L34 n_34) v2_34 v3_34 v4_34 v5_34 s9_34 b_34 := hf
      have hok : kbX8_blameOf_L34 (kX8_blameOf_L34 n_34) v2_34 v3_34 v4_34 v5_34 s9_34 b_34 := hok
      refine lv_iload hx hb dX8_blameOf_34 (lv_at hl 4 rfl) ?_
      refine lv_aload_n hx hb dX8_blameOf_36 rfl (lv_at hl 0 rfl) ?_
      refine va_get (D := (dC, dI)) (ci := 5) (v := .int (s9_34.1 0)) (C := RX8) (T := TX8) (N := 9) hx hb hts hin8 hown hK hP 0 rfl rfl 4 (by decide) fl24 (fun _ h9 => h9) rfl dX8_blameOf_37 ?_
      refine lv_icmp_ge (tgt := 119) hx hb dX8_blameOf_40 (by decide) (fun c7 => ?_) (fun c7 => ?_)
      · have hf := it_eq c7 hf
        refine lv_iload hx hb dX8_blameOf_119 (lv_at hl 3 rfl) ?_
        exact e_mi C0 (hf.symm.trans hF) hP hS dX8_blameOf_121
      · have hf := ie_eq c7 hf
        have hok := ie_ok c7 hok
        refine lv_iload hx hb dX8_blameOf_43 (lv_at hl 4 rfl) ?_
        refine lv_iconst (v := 1) hx hb dX8_blameOf_45 (by decide) ?_
        refine lv_iadd hx hb dX8_blameOf_46 ?_
        refine lv_topi (fun x8 ex8 => ?_)
        have hf := lt_eq ex8 hf
        have hok := lt_ok ex8 hok
        refine lv_istore (lv' := [(6, .int x8), (0, .ref (qs 0)), (2, .int v2_34), (3, .int v3_34), (4, .int v4_34), (5, .int v5_34)]) hx hb dX8_blameOf_47 hl (by decide) rfl (fun ls hl => ?_)
        exact J_49 fu v2_34 v3_34 v4_34 v5_34 x8 s9_34 b_34 _ _ hP hS _ (lv_sub hl [1, 2, 3, 4, 5, 0] rfl) hf hok
  refine lv_aload_n hx hb dX8_blameOf_0 rfl (lv_at hl 0 rfl) ?_
  refine va_get (D := (dC, dI)) (ci := 5) (v := .int (s9.1 1)) (C := RX8) (T := TX8) (N := 9) hx hb hts hin8 hown hK hP 0 rfl rfl 5 (by decide) fl29 (fun _ h9 => h9) rfl dX8_blameOf_1 ?_
  refine lv_ldc (v := (-1000000000)) hx hb hown cn28 dX8_blameOf_4 ?_
  refine lv_icmp_ne (tgt := 12) hx hb dX8_blameOf_6 (by decide) (fun c1 => ?_) (fun c1 => ?_)
  · have hf := ie_eq c1 hf
    have hok := ie_ok c1 hok
    refine lv_aload_n hx hb dX8_blameOf_12 rfl (lv_at hl 0 rfl) ?_
    refine lv_aload_n hx hb dX8_blameOf_13 rfl (lv_at hl 1 rfl) ?_
    refine lv_aload_n hx hb dX8_blameOf_14 rfl (lv_at hl 0 rfl) ?_
    refine va_get (D := (dC, dI)) (ci := 5) (v := .int (s9.1 1)) (C := RX8) (T := TX8) (N := 9) hx hb hts hin8 hown hK hP 0 rfl rfl 5 (by decide) fl29 (fun _ h9 => h9) rfl dX8_blameOf_15 ?_
    obtain ⟨h2, hok⟩ := hok
    refine gms_v (va_runV (As := [.ref (qb 0), .int (s9.1 1)]) (rest := []) ⟨hx, hb, hml, hown, hts⟩ (mX8_traceStarts l dC dI cI cB cO cL qs qb s9 b (s9.1 1) (gD_any hD) h2) (cwV 2 hts gX8_blameOf_X8_traceStarts rfl rfl rfl (by decide +kernel) ⟨Nat.le_of_ble_eq_true rfl, Nat.le_of_ble_eq_true rfl⟩) ⟨cP_blind, va_recv hK hP (ci := 5) (q0 := 0) rfl rfl, cP_ok hP hK hE⟩ rfl rfl hl.1 rfl (lv_room (Nat.le_of_ble_eq_true rfl)) dX8_blameOf_18 ⟨Nat.zero_le _, Nat.zero_le _⟩) hP (gD_va hD rfl) hS (fun u4 H locs hw hP hS => ?_)
    have hP : va_P (dC, dI) vwCl (sw qs cI u4.1 ++ bw qb cI u4.2) H := hP
    have hf := lt_eq hw hf
    have hok := lt_ok hw hok
    refine lv_aload_n hx hb dX8_blameOf_21 rfl (lv_at hl 1 rfl) ?_
    refine lv_bipush (v := 6) hx hb dX8_blameOf_22 (by decide) ?_
    obtain ⟨h5, hok⟩ := hok
    have hPc := hP.sub (ws' := bw qb cI u4.2) [5, 6, 7, 8, 9, 10, 11, 12, 13] rfl
    refine gro_i (va_runV (As := [.int 6]) (rest := []) ⟨hx, hb, hml, hown, hts⟩ (mX2_setting l dC dI cI cB cO cL qb u4.2 6  h5) (cwV 1 hts gX8_blameOf_X2_setting rfl rfl rfl (by decide +kernel) ⟨Nat.le_of_ble_eq_true rfl, Nat.le_of_ble_eq_true rfl⟩) ⟨cP_blind, va_recv hK hPc (ci := 1) (q0 := 0) rfl rfl, cP_ok hPc hK hE⟩ rfl rfl hl.1 rfl (lv_room (Nat.le_of_ble_eq_true rfl)) dX8_blameOf_24 ⟨Nat.zero_le _, Nat.zero_le _⟩) ?_
    refine lv_topi (fun x6 ex6 => ?_)
    have hf := lt_eq ex6 hf
    have hok := lt_ok ex6 hok
    refine lv_istore_n (lv' := [(3, .int x6), (0, .ref (qs 0)), (1, .ref (qb 0)), (2, .int a2)]) hx hb dX8_blameOf_27 rfl hl (by decide) rfl (fun ls hl => ?_)
    refine lv_iconst (v := 0) hx hb dX8_blameOf_28 (by decide) ?_
    refine lv_istore (lv' := [(4, .int 0), (3, .int x6), (0, .ref (qs 0)), (1, .ref (qb 0)), (2, .int a2)]) hx hb dX8_blameOf_29 hl (by decide) rfl (fun ls hl => ?_)
    refine lv_iconst (v := 0) hx hb dX8_blameOf_31 (by decide) ?_
    refine lv_istore (lv' := [(5, .int 0), (4, .int 0), (3, .int x6), (0, .ref (qs 0)), (1, .ref (qb 0)), (2, .int a2)]) hx hb dX8_blameOf_32 hl (by decide) rfl (fun ls hl => ?_)
    exact J_34 fu a2 x6 0 0 u4.1 u4.2 _ _ hP hS _ (lv_sub hl [3, 5, 2, 1, 0] rfl) hf hok
  · have hf := it_eq c1 hf
    refine lv_ldc (v := (-1000000000)) hx hb hown cn28 dX8_blameOf_9 ?_
    exact e_mi C0 (hf.symm.trans hF) hP hS dX8_blameOf_11
noncomputable def pX8_mostBlamed_L41  (q_8 : Int32 → Int32 → Int32 → SS → BS → (Int32 × SS × BS)) (v2_41 : Int32) (v3_41 : Int32) (v4_41 : Int32) (s9_41 : SS) (b_41 : BS) : Int32 × SS × BS := lt (v4_41 + 1) fun (x6 : Int32) => q_8 v2_41 v3_41 x6 s9_41 b_41
def kX8_mostBlamed_L41  (Q_8 : Int32 → Int32 → Int32 → SS → BS → Prop) (v2_41 : Int32) (v3_41 : Int32) (v4_41 : Int32) (s9_41 : SS) (b_41 : BS) : Prop := lt (v4_41 + 1) fun (x6 : Int32) => Q_8 v2_41 v3_41 x6 s9_41 b_41
noncomputable def bX8_mostBlamed_L8   (q_8 : Int32 → Int32 → Int32 → SS → BS → (Int32 × SS × BS)) (v2_8 : Int32) (v3_8 : Int32) (v4_8 : Int32) (s9_8 : SS) (b_8 : BS) : Int32 × SS × BS := if (b_8.1 4) ≤ v4_8 then ((v2_8, s9_8, b_8)) else (bd (pX8_blameOf s9_8 b_8 v4_8) fun (r3 : Int32) (u4 : SS × BS) => if r3 ≤ v3_8 then (pX8_mostBlamed_L41 q_8 v2_8 v3_8 v4_8 u4.1 u4.2) else (pX8_mostBlamed_L41 q_8 v4_8 r3 v4_8 u4.1 u4.2))
noncomputable def pX8_mostBlamed_L8   : Nat → Int32 → Int32 → Int32 → SS → BS → (Int32 × SS × BS)
  | 0 => fun _ _ _ s9_8 b_8 => (0, s9_8, b_8)
  | n + 1 => bX8_mostBlamed_L8   (pX8_mostBlamed_L8   n)
def kbX8_mostBlamed_L8   (Q_8 : Int32 → Int32 → Int32 → SS → BS → Prop) (v2_8 : Int32) (v3_8 : Int32) (v4_8 : Int32) (s9_8 : SS) (b_8 : BS) : Prop := if (b_8.1 4) ≤ v4_8 then (True) else ((kX8_blameOf s9_8 b_8 v4_8) ∧ (bd (pX8_blameOf s9_8 b_8 v4_8) fun (r3 : Int32) (u4 : SS × BS) => if r3 ≤ v3_8 then (kX8_mostBlamed_L41 Q_8 v2_8 v3_8 v4_8 u4.1 u4.2) else (kX8_mostBlamed_L41 Q_8 v4_8 r3 v4_8 u4.1 u4.2)))
noncomputable def kX8_mostBlamed_L8   : Nat → Int32 → Int32 → Int32 → SS → BS → Prop
  | 0 => fun _ _ _ _ _ => False
  | n + 1 => kbX8_mostBlamed_L8   (kX8_mostBlamed_L8   n)
noncomputable def pX8_mostBlamed (s9 : SS) (b : BS) : Int32 × SS × BS := pX8_mostBlamed_L8 fu (-1000000000) 0 0 s9 b
def kX8_mostBlamed (s9 : SS) (b : BS) : Prop := kX8_mostBlamed_L8 fu (-1000000000) 0 0 s9 b
abbrev rX8_mostBlamed : Room := { frames := 5, cells := 0, slots := 0, locals := 123 }
set_option maxHeartbeats 4000000 in
set_option maxRecDepth 100000 in
theorem mX8_mostBlamed (l : Launch) (dC : Nat → ClassId) (dI : Nat → Nat → Nat) (cI cB cO cL : ClassId) (qs : Nat → Nat) (qb : Nat → Nat) (s9 : SS) (b : BS) (hI : gD (fun _ => True) (sAd qs ++ bAd qb)) (hok : kX8_mostBlamed s9 b) : Met l yX8_mostBlamed wsX8_mostBlamed rX8_mostBlamed (cP (dC, dI) (tYS cI cB cO cL) (sw qs cI s9 ++ bw qb cI b) [.ref (qs 0), .ref (qb 0)]) (gQi (dC, dI) (fun z9 : SS × BS => sw qs cI z9.1 ++ bw qb cI z9.2) (wA (sw qs cI s9 ++ bw qb cI b)) (pX8_mostBlamed s9 b)) 0 0 (wA (sw qs cI s9 ++ bw qb cI b)) := by
  refine cMet (cc := cX8_mostBlamed) (maxL := 6) (ret := some .int) [(0, .ref (qs 0)), (1, .ref (qb 0))] (by decide) rfl rfl rfl ?_
  intro p e s mi below meth c C0 hK hE hP ls hl
  obtain ⟨hx, hb, hr, hml, hown, hts, hlocks⟩ := id C0
  have hown : s.vm.findClass RX8 = some mi.cls := hown
  have hS : va_S (wA (sw qs cI s9 ++ bw qb cI b)) s.heap s.heap [] := va_S.rf
  have hD : gD (wA (sw qs cI s9 ++ bw qb cI b)) (sAd qs ++ bAd qb) := gD_wA (ws := sw qs cI s9 ++ bw qb cI b) hI
  have hP : va_P (dC, dI) vwCl (sw qs cI s9 ++ bw qb cI b) s.heap := hP
  obtain ⟨F, hF⟩ : ∃ F, F = pX8_mostBlamed s9 b := ⟨_, rfl⟩
  have hf := hF
  have hin2 : ∀ w ∈ u_ws RX2 TX2 8, w ∈ wsX8_mostBlamed := by decide +kernel
  have hin9 : ∀ w ∈ u_ws RX9 TX9 4, w ∈ wsX8_mostBlamed := by decide +kernel
  have cn28 := hts (.constant RX8 28 (-1000000000)) (by decide +kernel)
  have fl70 := hts (.fieldLink RX8 70 "ClickBench$Bench" "microphones" "LClickBench$Table;") (by decide +kernel)
  have fl74 := hts (.fieldLink RX8 74 "ClickBench$Table" "count" "I") (by decide +kernel)
  have J_8 : ∀ (n_8 : Nat) (v2_8 : Int32) (v3_8 : Int32) (v4_8 : Int32) (s9_8 : SS) (b_8 : BS) (H : Heap) (locs : List Loc), va_P (dC, dI) vwCl (sw qs cI s9_8 ++ bw qb cI b_8) H → va_S (wA (sw qs cI s9 ++ bw qb cI b)) s.heap H locs → ∀ ls : Array Slot, lv_has ls 6 [(0, .ref (qs 0)), (1, .ref (qb 0)), (2, .int v2_8), (3, .int v3_8), (4, .int v4_8)] → F = pX8_mostBlamed_L8 n_8 v2_8 v3_8 v4_8 s9_8 b_8 → kX8_mostBlamed_L8 n_8 v2_8 v3_8 v4_8 s9_8 b_8 → W p l e rX8_mostBlamed s mi ([.ref (qs 0), .ref (qb 0)] : List Value).toArray below meth c H locs 0 0 (MQ below (gQi (dC, dI) (fun z9 : SS × BS => sw qs cI z9.1 ++ bw qb cI z9.2) (wA (sw qs cI s9 ++ bw qb cI b)) (pX8_mostBlamed s9 b)) ([.ref (qs 0), .ref (qb 0)] : List Value).toArray s 0 0 (wA (sw qs cI s9 ++ bw qb cI b))) (F0 mi 8 ls []) := by
    intro n_8
    induction n_8 with
    | zero =>
      intro v2_8 v3_8 v4_8 s9_8 b_8 H locs hP hS ls hl hf hok
      exact absurd hok (fun h => h)
    | succ n_8 ih_8 =>
      have J_41 : ∀ (v2_41 : Int32) (v3_41 : Int32) (v4_41 : Int32) (s9_41 : SS) (b_41 : BS) (H : Heap) (locs : List Loc), va_P (dC, dI) vwCl (sw qs cI s9_41 ++ bw qb cI b_41) H → va_S (wA (sw qs cI s9 ++ bw qb cI b)) s.heap H locs → ∀ ls : Array Slot, lv_has ls 6 [(0, .ref (qs 0)), (1, .ref (qb 0)), (2, .int v2_41), (3, .int v3_41), (4, .int v4_41)] → F = pX8_mostBlamed_L41 (pX8_mostBlamed_L8 n_8) v2_41 v3_41 v4_41 s9_41 b_41 → kX8_mostBlamed_L41 (kX8_mostBlamed_L8 n_8) v2_41 v3_41 v4_41 s9_41 b_41 → W p l e rX8_mostBlamed s mi ([.ref (qs 0), .ref (qb 0)] : List Value).toArray below meth c H locs 0 0 (MQ below (gQi (dC, dI) (fun z9 : SS × BS => sw qs cI z9.1 ++ bw qb cI z9.2) (wA (sw qs cI s9 ++ bw qb cI b)) (pX8_mostBlamed s9 b)) ([.ref (qs 0), .ref (qb 0)] : List Value).toArray s 0 0 (wA (sw qs cI s9 ++ bw qb cI b))) (F0 mi 41 ls []) := by
        intro v2_41 v3_41 v4_41 s9_41 b_41 H locs hP hS ls hl hf hok
        obtain ⟨x6, ex6⟩ : ∃ y : Int32, y = v4_41 + 1 := ⟨_, rfl⟩
        refine lv_iinc (v := x6) (lv' := [(4, .int x6), (0, .ref (qs 0)), (1, .ref (qb 0)), (2, .int v2_41), (3, .int v3_41)]) hx hb dX8_mostBlamed_41 hl (k := 4) rfl (by rw [ex6]; rfl) (by decide) rfl (fun ls hl => ?_)
        have hf := lt_eq ex6 hf
        have hok := lt_ok ex6 hok
        refine lv_goto (tgt := 8) hx hb dX8_mostBlamed_44 (by decide) ?_
        exact ih_8 v2_41 v3_41 x6 s9_41 b_41 _ _ hP hS _ (lv_sub hl [1, 2, 3, 4, 0] rfl) hf hok
      intro v2_8 v3_8 v4_8 s9_8 b_8 H locs hP hS ls hl hf hok
      have hf : F = bX8_mostBlamed_L8 (pX8_mostBlamed_L8 n_8) v2_8 v3_8 v4_8 s9_8 b_8 := hf
      have hok : kbX8_mostBlamed_L8 (kX8_mostBlamed_L8 n_8) v2_8 v3_8 v4_8 s9_8 b_8 := hok
      refine lv_iload hx hb dX8_mostBlamed_8 (lv_at hl 4 rfl) ?_
      refine lv_aload_n hx hb dX8_mostBlamed_10 rfl (lv_at hl 1 rfl) ?_
      refine va_get (D := (dC, dI)) (ci := 1) (v := .ref (qb 1)) (C := RX2) (T := TX2) (N := 8) hx hb hts hin2 hown hK hP 5 rfl rfl 4 (by decide) fl70 (fun _ h9 => h9) rfl dX8_mostBlamed_11 ?_
      refine va_get (D := (dC, dI)) (ci := 6) (v := .int (b_8.1 4)) (C := RX9) (T := TX9) (N := 4) hx hb hts hin9 hown hK hP 6 rfl rfl 3 (by decide) fl74 (fun _ h9 => h9) rfl dX8_mostBlamed_14 ?_
      refine lv_icmp_ge (tgt := 47) hx hb dX8_mostBlamed_17 (by decide) (fun c1 => ?_) (fun c1 => ?_)
      · have hf := it_eq c1 hf
        refine lv_iload_n hx hb dX8_mostBlamed_47 rfl (lv_at hl 2 rfl) ?_
        exact e_mi C0 (hf.symm.trans hF) hP hS dX8_mostBlamed_48
      · have hf := ie_eq c1 hf
        have hok := ie_ok c1 hok
        refine lv_aload_n hx hb dX8_mostBlamed_20 rfl (lv_at hl 0 rfl) ?_
        refine lv_aload_n hx hb dX8_mostBlamed_21 rfl (lv_at hl 1 rfl) ?_
        refine lv_iload hx hb dX8_mostBlamed_22 (lv_at hl 4 rfl) ?_
        obtain ⟨h2, hok⟩ := hok
        refine gms_i (va_runV (As := [.ref (qb 0), .int v4_8]) (rest := []) ⟨hx, hb, hml, hown, hts⟩ (mX8_blameOf l dC dI cI cB cO cL qs qb s9_8 b_8 v4_8 (gD_any hD) h2) (cwV 2 hts gX8_mostBlamed_X8_blameOf rfl rfl rfl (by decide +kernel) ⟨Nat.le_of_ble_eq_true rfl, Nat.le_of_ble_eq_true rfl⟩) ⟨cP_blind, va_recv hK hP (ci := 5) (q0 := 0) rfl rfl, cP_ok hP hK hE⟩ rfl rfl hl.1 rfl (lv_room (Nat.le_of_ble_eq_true rfl)) dX8_mostBlamed_24 ⟨Nat.zero_le _, Nat.zero_le _⟩) hP (gD_va hD rfl) hS (fun r3 u4 H locs hw hP hS => ?_)
        have hP : va_P (dC, dI) vwCl (sw qs cI u4.1 ++ bw qb cI u4.2) H := hP
        have hf := bd_eq hw hf
        have hok := bd_ok hw hok
        refine lv_istore (lv' := [(5, .int r3), (0, .ref (qs 0)), (1, .ref (qb 0)), (2, .int v2_8), (3, .int v3_8), (4, .int v4_8)]) hx hb dX8_mostBlamed_27 hl (by decide) rfl (fun ls hl => ?_)
        refine lv_iload hx hb dX8_mostBlamed_29 (lv_at hl 0 rfl) ?_
        refine lv_iload_n hx hb dX8_mostBlamed_31 rfl (lv_at hl 4 rfl) ?_
        refine lv_icmp_le (tgt := 41) hx hb dX8_mostBlamed_32 (by decide) (fun c5 => ?_) (fun c5 => ?_)
        · have hf := it_eq c5 hf
          have hok := it_ok c5 hok
          exact J_41 v2_8 v3_8 v4_8 u4.1 u4.2 _ _ hP hS _ (lv_sub hl [1, 2, 3, 4, 5] rfl) hf hok
        · have hf := ie_eq c5 hf
          have hok := ie_ok c5 hok
          refine lv_iload hx hb dX8_mostBlamed_35 (lv_at hl 5 rfl) ?_
          refine lv_istore_n (lv' := [(2, .int v4_8), (5, .int r3), (0, .ref (qs 0)), (1, .ref (qb 0)), (3, .int v3_8), (4, .int v4_8)]) hx hb dX8_mostBlamed_37 rfl hl (by decide) rfl (fun ls hl => ?_)
          refine lv_iload hx hb dX8_mostBlamed_38 (lv_at hl 1 rfl) ?_
          refine lv_istore_n (lv' := [(3, .int r3), (2, .int v4_8), (5, .int r3), (0, .ref (qs 0)), (1, .ref (qb 0)), (4, .int v4_8)]) hx hb dX8_mostBlamed_40 rfl hl (by decide) rfl (fun ls hl => ?_)
          exact J_41 v4_8 r3 v4_8 u4.1 u4.2 _ _ hP hS _ (lv_sub hl [3, 4, 1, 0, 5] rfl) hf hok
  refine lv_ldc (v := (-1000000000)) hx hb hown cn28 dX8_mostBlamed_0 ?_
  refine lv_istore_n (lv' := [(2, .int (-1000000000)), (0, .ref (qs 0)), (1, .ref (qb 0))]) hx hb dX8_mostBlamed_2 rfl hl (by decide) rfl (fun ls hl => ?_)
  refine lv_iconst (v := 0) hx hb dX8_mostBlamed_3 (by decide) ?_
  refine lv_istore_n (lv' := [(3, .int 0), (2, .int (-1000000000)), (0, .ref (qs 0)), (1, .ref (qb 0))]) hx hb dX8_mostBlamed_4 rfl hl (by decide) rfl (fun ls hl => ?_)
  refine lv_iconst (v := 0) hx hb dX8_mostBlamed_5 (by decide) ?_
  refine lv_istore (lv' := [(4, .int 0), (3, .int 0), (2, .int (-1000000000)), (0, .ref (qs 0)), (1, .ref (qb 0))]) hx hb dX8_mostBlamed_6 hl (by decide) rfl (fun ls hl => ?_)
  exact J_8 fu (-1000000000) 0 0 s9 b _ _ hP hS _ (lv_sub hl [3, 4, 2, 1, 0] rfl) hf hok
noncomputable def pX2_tableOf (b : BS) (a1 : Int32) : Nat := if a1 = 0 then (0) else (if a1 = 1 then (1) else (if a1 = 2 then (2) else (3)))
abbrev rX2_tableOf : Room := { frames := 0, cells := 0, slots := 0, locals := 0 }
set_option maxHeartbeats 4000000 in
set_option maxRecDepth 100000 in
theorem mX2_tableOf (l : Launch) (dC : Nat → ClassId) (dI : Nat → Nat → Nat) (cI cB cO cL : ClassId) (qb : Nat → Nat) (b : BS) (a1 : Int32) : Met l yX2_tableOf wsX2_tableOf rX2_tableOf (cP (dC, dI) (tYS cI cB cO cL) (bw qb cI b) [.ref (qb 0), .int a1]) (gRr (fun k9 => .ref (qb (1 + 2 * k9))) (pX2_tableOf b a1)) 0 0 (fun _ => False) := by
  refine cMet (cc := cX2_tableOf) (maxL := 2) (ret := some (.object "ClickBench$Table")) [(0, .ref (qb 0)), (1, .int a1)] (by decide) rfl rfl rfl ?_
  intro p e s mi below meth c C0 hK hE hP ls hl
  obtain ⟨hx, hb, hr, hml, hown, hts, hlocks⟩ := id C0
  have hown : s.vm.findClass RX2 = some mi.cls := hown
  obtain ⟨F, hF⟩ : ∃ F, F = pX2_tableOf b a1 := ⟨_, rfl⟩
  have hf := hF
  have hin2 : ∀ w ∈ u_ws RX2 TX2 8, w ∈ wsX2_tableOf := by decide +kernel
  have fl29 := hts (.fieldLink RX2 29 "ClickBench$Bench" "microphones" "LClickBench$Table;") (by decide +kernel)
  have fl37 := hts (.fieldLink RX2 37 "ClickBench$Bench" "walls" "LClickBench$Table;") (by decide +kernel)
  have fl40 := hts (.fieldLink RX2 40 "ClickBench$Bench" "screens" "LClickBench$Table;") (by decide +kernel)
  have fl43 := hts (.fieldLink RX2 43 "ClickBench$Bench" "settings" "LClickBench$Table;") (by decide +kernel)
  refine lv_iload_n hx hb dX2_tableOf_0 rfl (lv_at hl 1 rfl) ?_
  by_cases c1 : a1 = 0
  · have hf := it_eq c1 hf
    refine lv_tableIn (tgt := 28) (off := 27) hx hb dX2_tableOf_1 (by rw [c1]; decide) (by rw [c1]; decide) (by rw [c1]; rfl) (by decide) ?_
    refine lv_aload_n hx hb dX2_tableOf_28 rfl (lv_at hl 0 rfl) ?_
    refine va_get (D := (dC, dI)) (ci := 1) (v := .ref (qb 1)) (C := RX2) (T := TX2) (N := 8) hx hb hts hin2 hown hK hP 0 rfl rfl 4 (by decide) fl29 (fun _ h9 => h9) rfl dX2_tableOf_29 ?_
    exact e_rr (k := 0) C0 rfl (hf.symm.trans hF) dX2_tableOf_32
  · have hf := ie_eq c1 hf
    by_cases c2 : a1 = 1
    · have hf := it_eq c2 hf
      refine lv_tableIn (tgt := 33) (off := 32) hx hb dX2_tableOf_1 (by rw [c2]; decide) (by rw [c2]; decide) (by rw [c2]; rfl) (by decide) ?_
      refine lv_aload_n hx hb dX2_tableOf_33 rfl (lv_at hl 0 rfl) ?_
      refine va_get (D := (dC, dI)) (ci := 1) (v := .ref (qb 3)) (C := RX2) (T := TX2) (N := 8) hx hb hts hin2 hown hK hP 0 rfl rfl 5 (by decide) fl37 (fun _ h9 => h9) rfl dX2_tableOf_34 ?_
      exact e_rr (k := 1) C0 rfl (hf.symm.trans hF) dX2_tableOf_37
    · have hf := ie_eq c2 hf
      by_cases c3 : a1 = 2
      · have hf := it_eq c3 hf
        refine lv_tableIn (tgt := 38) (off := 37) hx hb dX2_tableOf_1 (by rw [c3]; decide) (by rw [c3]; decide) (by rw [c3]; rfl) (by decide) ?_
        refine lv_aload_n hx hb dX2_tableOf_38 rfl (lv_at hl 0 rfl) ?_
        refine va_get (D := (dC, dI)) (ci := 1) (v := .ref (qb 5)) (C := RX2) (T := TX2) (N := 8) hx hb hts hin2 hown hK hP 0 rfl rfl 6 (by decide) fl40 (fun _ h9 => h9) rfl dX2_tableOf_39 ?_
        exact e_rr (k := 2) C0 rfl (hf.symm.trans hF) dX2_tableOf_42
      · have hf := ie_eq c3 hf
        refine lv_tableOut (tgt := 43) hx hb dX2_tableOf_1 (by have h0_ := i32_ne (n := 0) rfl c1; have h1_ := i32_ne (n := 1) rfl c2; have h2_ := i32_ne (n := 2) rfl c3; omega) (by decide) ?_
        refine lv_aload_n hx hb dX2_tableOf_43 rfl (lv_at hl 0 rfl) ?_
        refine va_get (D := (dC, dI)) (ci := 1) (v := .ref (qb 7)) (C := RX2) (T := TX2) (N := 8) hx hb hts hin2 hown hK hP 0 rfl rfl 7 (by decide) fl43 (fun _ h9 => h9) rfl dX2_tableOf_44 ?_
        exact e_rr (k := 3) C0 rfl (hf.symm.trans hF) dX2_tableOf_47
noncomputable def pX5_isFull (x : TS) : Bool := if x.1 < 150 then (false) else (true)
abbrev rX5_isFull : Room := { frames := 0, cells := 0, slots := 0, locals := 0 }
set_option maxHeartbeats 4000000 in
set_option maxRecDepth 100000 in
theorem mX5_isFull (l : Launch) (dC : Nat → ClassId) (dI : Nat → Nat → Nat) (cI cB cO cL : ClassId) (qx : Nat → Nat) (x : TS) : Met l yX5_isFull wsX5_isFull rX5_isFull (cP (dC, dI) (tYS cI cB cO cL) (xw qx cI x) [.ref (qx 0)]) (gRz (pX5_isFull x)) 0 0 (fun _ => False) := by
  refine cMet (cc := cX5_isFull) (maxL := 1) (ret := some .boolean) [(0, .ref (qx 0))] (by decide) rfl rfl rfl ?_
  intro p e s mi below meth c C0 hK hE hP ls hl
  obtain ⟨hx, hb, hr, hml, hown, hts, hlocks⟩ := id C0
  have hown : s.vm.findClass RX5 = some mi.cls := hown
  obtain ⟨F, hF⟩ : ∃ F, F = pX5_isFull x := ⟨_, rfl⟩
  have hf := hF
  have hin5 : ∀ w ∈ u_ws RX5 TX5 2, w ∈ wsX5_isFull := by decide +kernel
  have fl15 := hts (.fieldLink RX5 15 "ClickBench$CommandText" "length" "I") (by decide +kernel)
  refine lv_aload_n hx hb dX5_isFull_0 rfl (lv_at hl 0 rfl) ?_
  refine va_get (D := (dC, dI)) (ci := 3) (v := .int x.1) (C := RX5) (T := TX5) (N := 2) hx hb hts hin5 hown hK hP 0 rfl rfl 1 (by decide) fl15 (fun _ h9 => h9) rfl dX5_isFull_1 ?_
  refine lv_sipush (v := 150) hx hb dX5_isFull_4 (by decide) ?_
  refine lv_icmp_lt (tgt := 14) hx hb dX5_isFull_7 (by decide) (fun c1 => ?_) (fun c1 => ?_)
  · have hf := it_eq c1 hf
    refine lv_iconst (v := 0) hx hb dX5_isFull_14 (by decide) ?_
    exact e_rz C0 (b := false) rfl (hf.symm.trans hF) dX5_isFull_15
  · have hf := ie_eq c1 hf
    refine lv_iconst (v := 1) hx hb dX5_isFull_10 (by decide) ?_
    refine lv_goto (tgt := 15) hx hb dX5_isFull_11 (by decide) ?_
    exact e_rz C0 (b := true) rfl (hf.symm.trans hF) dX5_isFull_15
noncomputable def pX5_append (x : TS) (a1 : Int32) : Int32 × TS := if (pX5_isFull x) = true then ((x.1, x)) else (lt ((x.1, (upd x.2 x.1.toNatClampNeg a1))) fun (x_3 : TS) => lt ((x_3.1 + 1, x_3.2)) fun (x_4 : TS) => (x_4.1, x_4))
def kX5_append (x : TS) (a1 : Int32) : Prop := if (pX5_isFull x) = true then (True) else (vp_in x.1 150)
abbrev rX5_append : Room := { frames := 1, cells := 0, slots := 0, locals := 20 }
set_option maxHeartbeats 4000000 in
set_option maxRecDepth 100000 in
theorem mX5_append (l : Launch) (dC : Nat → ClassId) (dI : Nat → Nat → Nat) (cI cB cO cL : ClassId) (qx : Nat → Nat) (x : TS) (a1 : Int32) (hI : gD (fun _ => True) (xAd qx)) (hok : kX5_append x a1) : Met l yX5_append wsX5_append rX5_append (cP (dC, dI) (tYS cI cB cO cL) (xw qx cI x) [.ref (qx 0), .int a1]) (gQi (dC, dI) (fun z9 => xw qx cI z9) (wA (xw qx cI x)) (pX5_append x a1)) 0 0 (wA (xw qx cI x)) := by
  refine cMet (cc := cX5_append) (maxL := 2) (ret := some .int) [(0, .ref (qx 0)), (1, .int a1)] (by decide) rfl rfl rfl ?_
  intro p e s mi below meth c C0 hK hE hP ls hl
  obtain ⟨hx, hb, hr, hml, hown, hts, hlocks⟩ := id C0
  have hown : s.vm.findClass RX5 = some mi.cls := hown
  have hS : va_S (wA (xw qx cI x)) s.heap s.heap [] := va_S.rf
  have hD : gD (wA (xw qx cI x)) (xAd qx) := gD_wA (ws := xw qx cI x) hI
  have hP : va_P (dC, dI) vwCl (xw qx cI x) s.heap := hP
  obtain ⟨F, hF⟩ : ∃ F, F = pX5_append x a1 := ⟨_, rfl⟩
  have hf := hF
  have hin5 : ∀ w ∈ u_ws RX5 TX5 2, w ∈ wsX5_append := by decide +kernel
  have fl15 := hts (.fieldLink RX5 15 "ClickBench$CommandText" "length" "I") (by decide +kernel)
  have fl11 := hts (.fieldLink RX5 11 "ClickBench$CommandText" "bytes" "[I") (by decide +kernel)
  refine lv_aload_n hx hb dX5_append_0 rfl (lv_at hl 0 rfl) ?_
  refine gro_i (va_runV (As := []) (rest := []) ⟨hx, hb, hml, hown, hts⟩ (mX5_isFull l dC dI cI cB cO cL qx x  ) (cwV 0 hts gX5_append_X5_isFull rfl rfl rfl (by decide +kernel) ⟨Nat.le_of_ble_eq_true rfl, Nat.le_of_ble_eq_true rfl⟩) ⟨cP_blind, va_recv hK hP (ci := 3) (q0 := 0) rfl rfl, cP_ok hP hK hE⟩ rfl rfl hl.1 rfl (lv_room (Nat.le_of_ble_eq_true rfl)) dX5_append_1 ⟨Nat.zero_le _, Nat.zero_le _⟩) ?_
  refine lv_if_ne (tgt := 27) hx hb dX5_append_4 (by decide) (fun c1 => ?_) (fun c1 => ?_)
  · have c1 := bz_t c1
    have hf := it_eq c1 hf
    refine lv_aload_n hx hb dX5_append_27 rfl (lv_at hl 0 rfl) ?_
    refine va_get (D := (dC, dI)) (ci := 3) (v := .int x.1) (C := RX5) (T := TX5) (N := 2) hx hb hts hin5 hown hK hP 0 rfl rfl 1 (by decide) fl15 (fun _ h9 => h9) rfl dX5_append_28 ?_
    exact e_mi C0 (hf.symm.trans hF) hP hS dX5_append_31
  · have c1 := bz_f c1
    have hf := ie_eq c1 hf
    have hok := ie_ok c1 hok
    refine lv_aload_n hx hb dX5_append_7 rfl (lv_at hl 0 rfl) ?_
    refine va_get (D := (dC, dI)) (ci := 3) (v := .ref (qx 1)) (C := RX5) (T := TX5) (N := 2) hx hb hts hin5 hown hK hP 0 rfl rfl 0 (by decide) fl11 (fun _ h9 => h9) rfl dX5_append_8 ?_
    refine lv_aload_n hx hb dX5_append_11 rfl (lv_at hl 0 rfl) ?_
    refine va_get (D := (dC, dI)) (ci := 3) (v := .int x.1) (C := RX5) (T := TX5) (N := 2) hx hb hts hin5 hown hK hP 0 rfl rfl 1 (by decide) fl15 (fun _ h9 => h9) rfl dX5_append_12 ?_
    refine lv_iload_n hx hb dX5_append_15 rfl (lv_at hl 1 rfl) ?_
    have h2 : vp_in x.1 150 := hok
    refine va_iast (D := (dC, dI)) (tys := (tYS cI cB cO cL)) hx hb hK hP (gD_va hD rfl) hS 1 0 rfl rfl h2 dX5_append_16 (fun H locs hP _ hS => ?_)
    obtain ⟨x_3, ex_3⟩ : ∃ z9 : TS, z9 = (x.1, (upd x.2 x.1.toNatClampNeg a1)) := ⟨_, rfl⟩
    have hP : va_P (dC, dI) vwCl (xw qx cI x_3) H := by rw [ex_3]; exact hP
    have hf := lt_eq ex_3 hf
    refine lv_aload_n hx hb dX5_append_17 rfl (lv_at hl 0 rfl) ?_
    refine lv_dup hx hb dX5_append_18 rfl ?_
    refine va_get (D := (dC, dI)) (ci := 3) (v := .int x_3.1) (C := RX5) (T := TX5) (N := 2) hx hb hts hin5 hown hK hP 0 rfl rfl 1 (by decide) fl15 (fun _ h9 => h9) rfl dX5_append_19 ?_
    refine lv_iconst (v := 1) hx hb dX5_append_22 (by decide) ?_
    refine lv_iadd hx hb dX5_append_23 ?_
    refine va_put (D := (dC, dI)) (ci := 3) (v := .int (x_3.1 + 1)) (ty := .int) (C := RX5) (T := TX5) (N := 2) hx hb hts hin5 tyX5 tyX5_ok nmX5 hown hK hP (gD_va hD rfl) hS 0 rfl rfl 1 (by decide) fl15 (fun _ h9 => h9) rfl (by decide +kernel) rfl rfl (Nat.le_of_ble_eq_true rfl) dX5_append_24 (fun H locs hP _ hS => ?_)
    obtain ⟨x_4, ex_4⟩ : ∃ z9 : TS, z9 = (x_3.1 + 1, x_3.2) := ⟨_, rfl⟩
    have hP : va_P (dC, dI) vwCl (xw qx cI x_4) H := by rw [ex_4]; exact hP
    have hf := lt_eq ex_4 hf
    refine lv_aload_n hx hb dX5_append_27 rfl (lv_at hl 0 rfl) ?_
    refine va_get (D := (dC, dI)) (ci := 3) (v := .int x_4.1) (C := RX5) (T := TX5) (N := 2) hx hb hts hin5 hown hK hP 0 rfl rfl 1 (by decide) fl15 (fun _ h9 => h9) rfl dX5_append_28 ?_
    exact e_mi C0 (hf.symm.trans hF) hP hS dX5_append_31
noncomputable def pX5_empty (x : TS) : Int32 × TS := lt (x.1) fun (x1 : Int32) => lt ((0, x.2)) fun (x_2 : TS) => (x1, x_2)
abbrev rX5_empty : Room := { frames := 0, cells := 0, slots := 0, locals := 0 }
set_option maxHeartbeats 4000000 in
set_option maxRecDepth 100000 in
theorem mX5_empty (l : Launch) (dC : Nat → ClassId) (dI : Nat → Nat → Nat) (cI cB cO cL : ClassId) (qx : Nat → Nat) (x : TS) (hI : gD (fun _ => True) (xAd qx)) : Met l yX5_empty wsX5_empty rX5_empty (cP (dC, dI) (tYS cI cB cO cL) (xw qx cI x) [.ref (qx 0)]) (gQi (dC, dI) (fun z9 => xw qx cI z9) (wA (xw qx cI x)) (pX5_empty x)) 0 0 (wA (xw qx cI x)) := by
  refine cMet (cc := cX5_empty) (maxL := 2) (ret := some .int) [(0, .ref (qx 0))] (by decide) rfl rfl rfl ?_
  intro p e s mi below meth c C0 hK hE hP ls hl
  obtain ⟨hx, hb, hr, hml, hown, hts, hlocks⟩ := id C0
  have hown : s.vm.findClass RX5 = some mi.cls := hown
  have hS : va_S (wA (xw qx cI x)) s.heap s.heap [] := va_S.rf
  have hD : gD (wA (xw qx cI x)) (xAd qx) := gD_wA (ws := xw qx cI x) hI
  have hP : va_P (dC, dI) vwCl (xw qx cI x) s.heap := hP
  obtain ⟨F, hF⟩ : ∃ F, F = pX5_empty x := ⟨_, rfl⟩
  have hf := hF
  have hin5 : ∀ w ∈ u_ws RX5 TX5 2, w ∈ wsX5_empty := by decide +kernel
  have fl15 := hts (.fieldLink RX5 15 "ClickBench$CommandText" "length" "I") (by decide +kernel)
  refine lv_aload_n hx hb dX5_empty_0 rfl (lv_at hl 0 rfl) ?_
  refine va_get (D := (dC, dI)) (ci := 3) (v := .int x.1) (C := RX5) (T := TX5) (N := 2) hx hb hts hin5 hown hK hP 0 rfl rfl 1 (by decide) fl15 (fun _ h9 => h9) rfl dX5_empty_1 ?_
  refine lv_topi (fun x1 ex1 => ?_)
  have hf := lt_eq ex1 hf
  refine lv_istore_n (lv' := [(1, .int x1), (0, .ref (qx 0))]) hx hb dX5_empty_4 rfl hl (by decide) rfl (fun ls hl => ?_)
  refine lv_aload_n hx hb dX5_empty_5 rfl (lv_at hl 1 rfl) ?_
  refine lv_iconst (v := 0) hx hb dX5_empty_6 (by decide) ?_
  refine va_put (D := (dC, dI)) (ci := 3) (v := .int 0) (ty := .int) (C := RX5) (T := TX5) (N := 2) hx hb hts hin5 tyX5 tyX5_ok nmX5 hown hK hP (gD_va hD rfl) hS 0 rfl rfl 1 (by decide) fl15 (fun _ h9 => h9) rfl (by decide +kernel) rfl rfl (Nat.le_of_ble_eq_true rfl) dX5_empty_7 (fun H locs hP _ hS => ?_)
  obtain ⟨x_2, ex_2⟩ : ∃ z9 : TS, z9 = (0, x.2) := ⟨_, rfl⟩
  have hP : va_P (dC, dI) vwCl (xw qx cI x_2) H := by rw [ex_2]; exact hP
  have hf := lt_eq ex_2 hf
  refine lv_iload_n hx hb dX5_empty_10 rfl (lv_at hl 0 rfl) ?_
  exact e_mi C0 (hf.symm.trans hF) hP hS dX5_empty_11
noncomputable def pX5_byteAt (x : TS) (a1 : Int32) : Int32 := if (pX11_isBetween a1 0 149) = true then (x.2 a1.toNatClampNeg) else ((-1000000000))
def kX5_byteAt (x : TS) (a1 : Int32) : Prop := if (pX11_isBetween a1 0 149) = true then (vp_in a1 150) else (True)
abbrev rX5_byteAt : Room := { frames := 1, cells := 0, slots := 0, locals := 22 }
set_option maxHeartbeats 4000000 in
set_option maxRecDepth 100000 in
theorem mX5_byteAt (l : Launch) (dC : Nat → ClassId) (dI : Nat → Nat → Nat) (cI cB cO cL : ClassId) (qx : Nat → Nat) (x : TS) (a1 : Int32) (hok : kX5_byteAt x a1) : Met l yX5_byteAt wsX5_byteAt rX5_byteAt (cP (dC, dI) (tYS cI cB cO cL) (xw qx cI x) [.ref (qx 0), .int a1]) (gRi (pX5_byteAt x a1)) 0 0 (fun _ => False) := by
  refine cMet (cc := cX5_byteAt) (maxL := 2) (ret := some .int) [(0, .ref (qx 0)), (1, .int a1)] (by decide) rfl rfl rfl ?_
  intro p e s mi below meth c C0 hK hE hP ls hl
  obtain ⟨hx, hb, hr, hml, hown, hts, hlocks⟩ := id C0
  have hown : s.vm.findClass RX5 = some mi.cls := hown
  obtain ⟨F, hF⟩ : ∃ F, F = pX5_byteAt x a1 := ⟨_, rfl⟩
  have hf := hF
  have hin5 : ∀ w ∈ u_ws RX5 TX5 2, w ∈ wsX5_byteAt := by decide +kernel
  have cn27 := hts (.constant RX5 27 (-1000000000)) (by decide +kernel)
  have fl11 := hts (.fieldLink RX5 11 "ClickBench$CommandText" "bytes" "[I") (by decide +kernel)
  refine lv_iload_n hx hb dX5_byteAt_0 rfl (lv_at hl 1 rfl) ?_
  refine lv_iconst (v := 0) hx hb dX5_byteAt_1 (by decide) ?_
  refine lv_sipush (v := 149) hx hb dX5_byteAt_2 (by decide) ?_
  refine gro_i (va_runSN (As := [.int a1, .int 0, .int 149]) (rest := []) ⟨hx, hb, hml, hown, hts⟩ (mX11_isBetween l dC dI cI cB cO cL  a1 0 149  ) ⟨va_cnB 3 hts gX5_byteAt_X11_isBetween_n23 rfl rfl rfl (eN.at hE (own := RX5) (idx := 23) (y := yX11_isBetween) (host := "ClickBench") (by decide +kernel)) (hts (.initialized RX11) (by decide +kernel)) (by decide +kernel) ⟨Nat.le_of_ble_eq_true rfl, Nat.le_of_ble_eq_true rfl⟩, hts (.static yX11_isBetween) (by decide +kernel), trivial⟩ ⟨cP_blind, cP_ok va_P_nil hK hE⟩ rfl rfl hl.1 rfl (lv_room (Nat.le_of_ble_eq_true rfl)) dX5_byteAt_5 ⟨Nat.zero_le _, Nat.zero_le _⟩) ?_
  refine lv_if_eq (tgt := 20) hx hb dX5_byteAt_8 (by decide) (fun c1 => ?_) (fun c1 => ?_)
  · have c1 := bz_f c1
    have hf := ie_eq c1 hf
    refine lv_ldc (v := (-1000000000)) hx hb hown cn27 dX5_byteAt_20 ?_
    exact e_ri C0 (hf.symm.trans hF) dX5_byteAt_22
  · have c1 := bz_t c1
    have hf := it_eq c1 hf
    have hok := it_ok c1 hok
    refine lv_aload_n hx hb dX5_byteAt_11 rfl (lv_at hl 0 rfl) ?_
    refine va_get (D := (dC, dI)) (ci := 3) (v := .ref (qx 1)) (C := RX5) (T := TX5) (N := 2) hx hb hts hin5 hown hK hP 0 rfl rfl 0 (by decide) fl11 (fun _ h9 => h9) rfl dX5_byteAt_12 ?_
    refine lv_iload_n hx hb dX5_byteAt_15 rfl (lv_at hl 1 rfl) ?_
    have h2 : vp_in a1 150 := hok
    refine va_iald (D := (dC, dI)) (tys := (tYS cI cB cO cL)) hx hb hK hP 1 0 rfl rfl h2 dX5_byteAt_16 ?_
    refine lv_goto (tgt := 22) hx hb dX5_byteAt_17 (by decide) ?_
    exact e_ri C0 (hf.symm.trans hF) dX5_byteAt_22
noncomputable def pX4_isLetter (a1 : Int32) : Bool := pX11_isBetween a1 97 122
abbrev rX4_isLetter : Room := { frames := 1, cells := 0, slots := 0, locals := 22 }
set_option maxHeartbeats 4000000 in
set_option maxRecDepth 100000 in
theorem mX4_isLetter (l : Launch) (dC : Nat → ClassId) (dI : Nat → Nat → Nat) (cI cB cO cL : ClassId)  (a1 : Int32) : Met l yX4_isLetter wsX4_isLetter rX4_isLetter (cP (dC, dI) (tYS cI cB cO cL) ([]) [.int a1]) (gRz (pX4_isLetter a1)) 0 0 (fun _ => False) := by
  refine cMet (cc := cX4_isLetter) (maxL := 1) (ret := some .boolean) [(0, .int a1)] (by decide) rfl rfl rfl ?_
  intro p e s mi below meth c C0 hK hE hP ls hl
  obtain ⟨hx, hb, hr, hml, hown, hts, hlocks⟩ := id C0
  have hown : s.vm.findClass RX4 = some mi.cls := hown
  obtain ⟨F, hF⟩ : ∃ F, F = pX4_isLetter a1 := ⟨_, rfl⟩
  have hf := hF
  refine lv_iload_n hx hb dX4_isLetter_0 rfl (lv_at hl 0 rfl) ?_
  refine lv_bipush (v := 97) hx hb dX4_isLetter_1 (by decide) ?_
  refine lv_bipush (v := 122) hx hb dX4_isLetter_3 (by decide) ?_
  refine gro_i (va_runSN (As := [.int a1, .int 97, .int 122]) (rest := []) ⟨hx, hb, hml, hown, hts⟩ (mX11_isBetween l dC dI cI cB cO cL  a1 97 122  ) ⟨va_cnB 3 hts gX4_isLetter_X11_isBetween_n43 rfl rfl rfl (eN.at hE (own := RX4) (idx := 43) (y := yX11_isBetween) (host := "ClickBench") (by decide +kernel)) (hts (.initialized RX11) (by decide +kernel)) (by decide +kernel) ⟨Nat.le_of_ble_eq_true rfl, Nat.le_of_ble_eq_true rfl⟩, hts (.static yX11_isBetween) (by decide +kernel), trivial⟩ ⟨cP_blind, cP_ok va_P_nil hK hE⟩ rfl rfl hl.1 rfl (lv_room (Nat.le_of_ble_eq_true rfl)) dX4_isLetter_5 ⟨Nat.zero_le _, Nat.zero_le _⟩) ?_
  exact e_rz C0 (b := (pX11_isBetween a1 97 122)) rfl (hf.symm.trans hF) dX4_isLetter_8
noncomputable def pX4_isDigit (a1 : Int32) : Bool := pX11_isBetween a1 48 57
abbrev rX4_isDigit : Room := { frames := 1, cells := 0, slots := 0, locals := 22 }
set_option maxHeartbeats 4000000 in
set_option maxRecDepth 100000 in
theorem mX4_isDigit (l : Launch) (dC : Nat → ClassId) (dI : Nat → Nat → Nat) (cI cB cO cL : ClassId)  (a1 : Int32) : Met l yX4_isDigit wsX4_isDigit rX4_isDigit (cP (dC, dI) (tYS cI cB cO cL) ([]) [.int a1]) (gRz (pX4_isDigit a1)) 0 0 (fun _ => False) := by
  refine cMet (cc := cX4_isDigit) (maxL := 1) (ret := some .boolean) [(0, .int a1)] (by decide) rfl rfl rfl ?_
  intro p e s mi below meth c C0 hK hE hP ls hl
  obtain ⟨hx, hb, hr, hml, hown, hts, hlocks⟩ := id C0
  have hown : s.vm.findClass RX4 = some mi.cls := hown
  obtain ⟨F, hF⟩ : ∃ F, F = pX4_isDigit a1 := ⟨_, rfl⟩
  have hf := hF
  refine lv_iload_n hx hb dX4_isDigit_0 rfl (lv_at hl 0 rfl) ?_
  refine lv_bipush (v := 48) hx hb dX4_isDigit_1 (by decide) ?_
  refine lv_bipush (v := 57) hx hb dX4_isDigit_3 (by decide) ?_
  refine gro_i (va_runSN (As := [.int a1, .int 48, .int 57]) (rest := []) ⟨hx, hb, hml, hown, hts⟩ (mX11_isBetween l dC dI cI cB cO cL  a1 48 57  ) ⟨va_cnB 3 hts gX4_isDigit_X11_isBetween_n43 rfl rfl rfl (eN.at hE (own := RX4) (idx := 43) (y := yX11_isBetween) (host := "ClickBench") (by decide +kernel)) (hts (.initialized RX11) (by decide +kernel)) (by decide +kernel) ⟨Nat.le_of_ble_eq_true rfl, Nat.le_of_ble_eq_true rfl⟩, hts (.static yX11_isBetween) (by decide +kernel), trivial⟩ ⟨cP_blind, cP_ok va_P_nil hK hE⟩ rfl rfl hl.1 rfl (lv_room (Nat.le_of_ble_eq_true rfl)) dX4_isDigit_5 ⟨Nat.zero_le _, Nat.zero_le _⟩) ?_
  exact e_rz C0 (b := (pX11_isBetween a1 48 57)) rfl (hf.symm.trans hF) dX4_isDigit_8
noncomputable def pX11_mix (a1 : Int64) (a2 : Int64) : Int64 := (31 * a1) + a2
abbrev rX11_mix : Room := { frames := 0, cells := 0, slots := 0, locals := 0 }
set_option maxHeartbeats 4000000 in
set_option maxRecDepth 100000 in
theorem mX11_mix (l : Launch) (dC : Nat → ClassId) (dI : Nat → Nat → Nat) (cI cB cO cL : ClassId)  (a1 : Int64) (a2 : Int64) : Met l yX11_mix wsX11_mix rX11_mix (cP (dC, dI) (tYS cI cB cO cL) ([]) [.long a1, .long a2]) (gRl (pX11_mix a1 a2)) 0 0 (fun _ => False) := by
  refine cMet (cc := cX11_mix) (maxL := 4) (ret := some .long) [(0, .long a1), (2, .long a2)] (by decide) rfl rfl rfl ?_
  intro p e s mi below meth c C0 hK hE hP ls hl
  obtain ⟨hx, hb, hr, hml, hown, hts, hlocks⟩ := id C0
  have hown : s.vm.findClass RX11 = some mi.cls := hown
  obtain ⟨F, hF⟩ : ∃ F, F = pX11_mix a1 a2 := ⟨_, rfl⟩
  have hf := hF
  have cn324 := hts (.constantLong RX11 324 (31)) (by decide +kernel)
  refine lv_ldc2 (v := 31) hx hb hown cn324 dX11_mix_0 ?_
  refine lv_lload_n hx hb dX11_mix_3 rfl (lv_at hl 0 rfl) ?_
  refine lv_lmul hx hb dX11_mix_4 ?_
  refine lv_lload_n hx hb dX11_mix_5 rfl (lv_at hl 1 rfl) ?_
  refine lv_ladd hx hb dX11_mix_6 ?_
  exact e_rl C0 (hf.symm.trans hF) dX11_mix_7
