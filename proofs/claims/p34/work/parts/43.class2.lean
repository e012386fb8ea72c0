noncomputable def pX1_collectSecondOrder_L94  (q_3 : Int32 → Int32 → Int32 → Int32 → TS → BS → (TS × BS)) (q_36 : Int32 → Int32 → Int32 → Int32 → Int32 → Int32 → Int32 → TS → BS → (TS × BS)) (v2_94 : Int32) (v3_94 : Int32) (v4_94 : Int32) (v5_94 : Int32) (v6_94 : Int32) (v7_94 : Int32) (v8_94 : Int32) (t_94 : TS) (b_94 : BS) : TS × BS := lt (v8_94 + 1) fun (x9 : Int32) => q_36 v2_94 v3_94 v4_94 v5_94 v6_94 v7_94 x9 t_94 b_94
def kX1_collectSecondOrder_L94  (Q_3 : Int32 → Int32 → Int32 → Int32 → TS → BS → Prop) (Q_36 : Int32 → Int32 → Int32 → Int32 → Int32 → Int32 → Int32 → TS → BS → Prop) (v2_94 : Int32) (v3_94 : Int32) (v4_94 : Int32) (v5_94 : Int32) (v6_94 : Int32) (v7_94 : Int32) (v8_94 : Int32) (t_94 : TS) (b_94 : BS) : Prop := lt (v8_94 + 1) fun (x9 : Int32) => Q_36 v2_94 v3_94 v4_94 v5_94 v6_94 v7_94 x9 t_94 b_94
noncomputable def bX1_collectSecondOrder_L36  (q_3 : Int32 → Int32 → Int32 → Int32 → TS → BS → (TS × BS)) (q_36 : Int32 → Int32 → Int32 → Int32 → Int32 → Int32 → Int32 → TS → BS → (TS × BS)) (v2_36 : Int32) (v3_36 : Int32) (v4_36 : Int32) (v5_36 : Int32) (v6_36 : Int32) (v7_36 : Int32) (v8_36 : Int32) (t_36 : TS) (b_36 : BS) : TS × BS := if (b_36.1 5) ≤ v8_36 then (lt (v5_36 + 1) fun (x7 : Int32) => q_3 v2_36 v3_36 v4_36 x7 t_36 b_36) else (if v8_36 = v5_36 then (pX1_collectSecondOrder_L94 q_3 q_36 v2_36 v3_36 v4_36 v5_36 v6_36 v7_36 v8_36 t_36 b_36) else (lt (pX2_mirroredX b_36 v8_36 v6_36) fun (x11 : Int32) => lt (pX2_mirroredY b_36 v8_36 v7_36) fun (x13 : Int32) => lt (pX1_append t_36 b_36 (pX2_wayTo b_36 v4_36 x11 x13) v5_36 v8_36) fun (u17 : TS × BS) => pX1_collectSecondOrder_L94 q_3 q_36 v2_36 v3_36 v4_36 v5_36 v6_36 v7_36 v8_36 u17.1 u17.2))
noncomputable def pX1_collectSecondOrder_L36  (q_3 : Int32 → Int32 → Int32 → Int32 → TS → BS → (TS × BS)) : Nat → Int32 → Int32 → Int32 → Int32 → Int32 → Int32 → Int32 → TS → BS → (TS × BS)
  | 0 => fun _ _ _ _ _ _ _ t_36 b_36 => (t_36, b_36)
  | n + 1 => bX1_collectSecondOrder_L36  q_3 (pX1_collectSecondOrder_L36  q_3 n)
def kbX1_collectSecondOrder_L36  (Q_3 : Int32 → Int32 → Int32 → Int32 → TS → BS → Prop) (Q_36 : Int32 → Int32 → Int32 → Int32 → Int32 → Int32 → Int32 → TS → BS → Prop) (v2_36 : Int32) (v3_36 : Int32) (v4_36 : Int32) (v5_36 : Int32) (v6_36 : Int32) (v7_36 : Int32) (v8_36 : Int32) (t_36 : TS) (b_36 : BS) : Prop := if (b_36.1 5) ≤ v8_36 then (lt (v5_36 + 1) fun (x7 : Int32) => Q_3 v2_36 v3_36 v4_36 x7 t_36 b_36) else (if v8_36 = v5_36 then (kX1_collectSecondOrder_L94 Q_3 Q_36 v2_36 v3_36 v4_36 v5_36 v6_36 v7_36 v8_36 t_36 b_36) else ((kX2_mirroredX b_36 v8_36 v6_36) ∧ (lt (pX2_mirroredX b_36 v8_36 v6_36) fun (x11 : Int32) => (kX2_mirroredY b_36 v8_36 v7_36) ∧ (lt (pX2_mirroredY b_36 v8_36 v7_36) fun (x13 : Int32) => (kX2_wayTo b_36 v4_36 x11 x13) ∧ ((kX1_append t_36 b_36 (pX2_wayTo b_36 v4_36 x11 x13) v5_36 v8_36) ∧ (lt (pX1_append t_36 b_36 (pX2_wayTo b_36 v4_36 x11 x13) v5_36 v8_36) fun (u17 : TS × BS) => kX1_collectSecondOrder_L94 Q_3 Q_36 v2_36 v3_36 v4_36 v5_36 v6_36 v7_36 v8_36 u17.1 u17.2))))))
noncomputable def kX1_collectSecondOrder_L36  (Q_3 : Int32 → Int32 → Int32 → Int32 → TS → BS → Prop) : Nat → Int32 → Int32 → Int32 → Int32 → Int32 → Int32 → Int32 → TS → BS → Prop
  | 0 => fun _ _ _ _ _ _ _ _ _ => False
  | n + 1 => kbX1_collectSecondOrder_L36  Q_3 (kX1_collectSecondOrder_L36  Q_3 n)
noncomputable def bX1_collectSecondOrder_L3   (q_3 : Int32 → Int32 → Int32 → Int32 → TS → BS → (TS × BS)) (v2_3 : Int32) (v3_3 : Int32) (v4_3 : Int32) (v5_3 : Int32) (t_3 : TS) (b_3 : BS) : TS × BS := if (b_3.1 5) ≤ v5_3 then ((t_3, b_3)) else (lt (pX2_mirroredX b_3 v5_3 v2_3) fun (x3 : Int32) => lt (pX2_mirroredY b_3 v5_3 v3_3) fun (x5 : Int32) => pX1_collectSecondOrder_L36 q_3 fu v2_3 v3_3 v4_3 v5_3 x3 x5 0 t_3 b_3)
noncomputable def pX1_collectSecondOrder_L3   : Nat → Int32 → Int32 → Int32 → Int32 → TS → BS → (TS × BS)
  | 0 => fun _ _ _ _ t_3 b_3 => (t_3, b_3)
  | n + 1 => bX1_collectSecondOrder_L3   (pX1_collectSecondOrder_L3   n)
def kbX1_collectSecondOrder_L3   (Q_3 : Int32 → Int32 → Int32 → Int32 → TS → BS → Prop) (v2_3 : Int32) (v3_3 : Int32) (v4_3 : Int32) (v5_3 : Int32) (t_3 : TS) (b_3 : BS) : Prop := if (b_3.1 5) ≤ v5_3 then (True) else ((kX2_mirroredX b_3 v5_3 v2_3) ∧ (lt (pX2_mirroredX b_3 v5_3 v2_3) fun (x3 : Int32) => (kX2_mirroredY b_3 v5_3 v3_3) ∧ (lt (pX2_mirroredY b_3 v5_3 v3_3) fun (x5 : Int32) => kX1_collectSecondOrder_L36 Q_3 fu v2_3 v3_3 v4_3 v5_3 x3 x5 0 t_3 b_3)))
noncomputable def kX1_collectSecondOrder_L3   : Nat → Int32 → Int32 → Int32 → Int32 → TS → BS → Prop
  | 0 => fun _ _ _ _ _ _ => False
  | n + 1 => kbX1_collectSecondOrder_L3   (kX1_collectSecondOrder_L3   n)
noncomputable def pX1_collectSecondOrder (t : TS) (b : BS) (a2 : Int32) (a3 : Int32) (a4 : Int32) : TS × BS := pX1_collectSecondOrder_L3 fu a2 a3 a4 0 t b
def kX1_collectSecondOrder (t : TS) (b : BS) (a2 : Int32) (a3 : Int32) (a4 : Int32) : Prop := kX1_collectSecondOrder_L3 fu a2 a3 a4 0 t b
abbrev rX1_collectSecondOrder : Room := { frames := 3, cells := 0, slots := 0, locals := 72 }
set_option maxHeartbeats 4000000 in
set_option maxRecDepth 100000 in
theorem mX1_collectSecondOrder (l : Launch) (dC : Nat → ClassId) (dI : Nat → Nat → Nat) (cI cB cO cL : ClassId) (qa : Nat → Nat) (qb : Nat → Nat) (t : TS) (b : BS) (a2 : Int32) (a3 : Int32) (a4 : Int32) (hI : gD (fun _ => True) (aAd qa ++ bAd qb)) (hok : kX1_collectSecondOrder t b a2 a3 a4) : Met l yX1_collectSecondOrder wsX1_collectSecondOrder rX1_collectSecondOrder (cP (dC, dI) (tYS cI cB cO cL) (aw qa cI t ++ bw qb cI b) [.ref (qa 0), .ref (qb 0), .int a2, .int a3, .int a4]) (gQv (dC, dI) (fun z9 : TS × BS => aw qa cI z9.1 ++ bw qb cI z9.2) (wA (aw qa cI t ++ bw qb cI b)) (pX1_collectSecondOrder t b a2 a3 a4)) 0 0 (wA (aw qa cI t ++ bw qb cI b)) := by
  refine cMet (cc := cX1_collectSecondOrder) (maxL := 11) (ret := none) [(0, .ref (qa 0)), (1, .ref (qb 0)), (2, .int a2), (3, .int a3), (4, .int a4)] (by decide) rfl rfl rfl ?_
  intro p e s mi below meth c C0 hK hE hP ls hl
  obtain ⟨hx, hb, hr, hml, hown, hts, hlocks⟩ := id C0
  have hown : s.vm.findClass RX1 = some mi.cls := hown
  have hS : va_S (wA (aw qa cI t ++ bw qb cI b)) s.heap s.heap [] := va_S.rf
  have hD : gD (wA (aw qa cI t ++ bw qb cI b)) (aAd qa ++ bAd qb) := gD_wA (ws := aw qa cI t ++ bw qb cI b) hI
  have hP : va_P (dC, dI) vwCl (aw qa cI t ++ bw qb cI b) s.heap := hP
  obtain ⟨F, hF⟩ : ∃ F, F = pX1_collectSecondOrder t b a2 a3 a4 := ⟨_, rfl⟩
  have hf := hF
  have hin2 : ∀ w ∈ u_ws RX2 TX2 8, w ∈ wsX1_collectSecondOrder := by decide +kernel
  have hin9 : ∀ w ∈ u_ws RX9 TX9 4, w ∈ wsX1_collectSecondOrder := by decide +kernel
  have fl39 := hts (.fieldLink RX1 39 "ClickBench$Bench" "walls" "LClickBench$Table;") (by decide +kernel)
  have fl20 := hts (.fieldLink RX1 20 "ClickBench$Table" "count" "I") (by decide +kernel)
  have J_3 : ∀ (n_3 : Nat) (v2_3 : Int32) (v3_3 : Int32) (v4_3 : Int32) (v5_3 : Int32) (t_3 : TS) (b_3 : BS) (H : Heap) (locs : List Loc), va_P (dC, dI) vwCl (aw qa cI t_3 ++ bw qb cI b_3) H → va_S (wA (aw qa cI t ++ bw qb cI b)) s.heap H locs → ∀ ls : Array Slot, lv_has ls 11 [(0, .ref (qa 0)), (1, .ref (qb 0)), (2, .int v2_3), (3, .int v3_3), (4, .int v4_3), (5, .int v5_3)] → F = pX1_collectSecondOrder_L3 n_3 v2_3 v3_3 v4_3 v5_3 t_3 b_3 → kX1_collectSecondOrder_L3 n_3 v2_3 v3_3 v4_3 v5_3 t_3 b_3 → W p l e rX1_collectSecondOrder s mi ([.ref (qa 0), .ref (qb 0), .int a2, .int a3, .int a4] : List Value).toArray below meth c H locs 0 0 (MQ below (gQv (dC, dI) (fun z9 : TS × BS => aw qa cI z9.1 ++ bw qb cI z9.2) (wA (aw qa cI t ++ bw qb cI b)) (pX1_collectSecondOrder t b a2 a3 a4)) ([.ref (qa 0), .ref (qb 0), .int a2, .int a3, .int a4] : List Value).toArray s 0 0 (wA (aw qa cI t ++ bw qb cI b))) (F0 mi 3 ls []) := by
    intro n_3
    induction n_3 with
    | zero =>
      intro v2_3 v3_3 v4_3 v5_3 t_3 b_3 H locs hP hS ls hl hf hok
      exact absurd hok (fun h => h)
    | succ n_3 ih_3 =>
      have J_36 : ∀ (n_36 : Nat) (v2_36 : Int32) (v3_36 : Int32) (v4_36 : Int32) (v5_36 : Int32) (v6_36 : Int32) (v7_36 : Int32) (v8_36 : Int32) (t_36 : TS) (b_36 : BS) (H : Heap) (locs : List Loc), va_P (dC, dI) vwCl (aw qa cI t_36 ++ bw qb cI b_36) H → va_S (wA (aw qa cI t ++ bw qb cI b)) s.heap H locs → ∀ ls : Array Slot, lv_has ls 11 [(0, .ref (qa 0)), (1, .ref (qb 0)), (2, .int v2_36), (3, .int v3_36), (4, .int v4_36), (5, .int v5_36), (6, .int v6_36), (7, .int v7_36), (8, .int v8_36)] → F = pX1_collectSecondOrder_L36 (pX1_collectSecondOrder_L3 n_3) n_36 v2_36 v3_36 v4_36 v5_36 v6_36 v7_36 v8_36 t_36 b_36 → kX1_collectSecondOrder_L36 (kX1_collectSecondOrder_L3 n_3) n_36 v2_36 v3_36 v4_36 v5_36 v6_36 v7_36 v8_36 t_36 b_36 → W p l e rX1_collectSecondOrder s mi ([.ref (qa 0), .ref (qb 0), .int a2, .int a3, .int a4] : List Value).toArray below meth c H locs 0 0 (MQ below (gQv (dC, dI) (fun z9 : TS × BS => aw qa cI z9.1 ++ bw qb cI z9.2) (wA (aw qa cI t ++ bw qb cI b)) (pX1_collectSecondOrder t b a2 a3 a4)) ([.ref (qa 0), .ref (qb 0), .int a2, .int a3, .int a4] : List Value).toArray s 0 0 (wA (aw qa cI t ++ bw qb cI b))) (F0 mi 36 ls []) := by
        intro n_36
        induction n_36 with
        | zero =>
          intro v2_36 v3_36 v4_36 v5_36 v6_36 v7_36 v8_36 t_36 b_36 H locs hP hS ls hl hf hok
          exact absurd hok (fun h => h)
        | succ n_36 ih_36 =>
          have J_94 : ∀ (v2_94 : Int32) (v3_94 : Int32) (v4_94 : Int32) (v5_94 : Int32) (v6_94 : Int32) (v7_94 : Int32) (v8_94 : Int32) (t_94 : TS) (b_94 : BS) (H : Heap) (locs : List Loc), va_P (dC, dI) vwCl (aw qa cI t_94 ++ bw qb cI b_94) H → va_S (wA (aw qa cI t ++ bw qb cI b)) s.heap H locs → ∀ ls : Array Slot, lv_has ls 11 [(0, .ref (qa 0)), (1, .ref (qb 0)), (2, .int v2_94), (3, .int v3_94), (4, .int v4_94), (5, .int v5_94), (6, .int v6_94), (7, .int v7_94), (8, .int v8_94)] → F = pX1_collectSecondOrder_L94 (pX1_collectSecondOrder_L3 n_3) (pX1_collectSecondOrder_L36 (pX1_collectSecondOrder_L3 n_3) n_36) v2_94 v3_94 v4_94 v5_94 v6_94 v7_94 v8_94 t_94 b_94 → kX1_collectSecondOrder_L94 (kX1_collectSecondOrder_L3 n_3) (kX1_collectSecondOrder_L36 (kX1_collectSecondOrder_L3 n_3) n_36) v2_94 v3_94 v4_94 v5_94 v6_94 v7_94 v8_94 t_94 b_94 → W p l e rX1_collectSecondOrder s mi ([.ref (qa 0), .ref (qb 0), .int a2, .int a3, .int a4] : List Value).toArray below meth c H locs 0 0 (MQ below (gQv (dC, dI) (fun z9 : TS × BS => aw qa cI z9.1 ++ bw qb cI z9.2) (wA (aw qa cI t ++ bw qb cI b)) (pX1_collectSecondOrder t b a2 a3 a4)) ([.ref (qa 0), .ref (qb 0), .int a2, .int a3, .int a4] : List Value).toArray s 0 0 (wA (aw qa cI t ++ bw qb cI b))) (F0 mi 94 ls []) := by
            intro v2_94 v3_94 v4_94 v5_94 v6_94 v7_94 v8_94 t_94 b_94 H locs hP hS ls hl hf hok
            obtain ⟨x9, ex9⟩ : ∃ y : Int32, y = v8_94 + 1 := ⟨_, rfl⟩
            refine lv_iinc (v := x9) (lv' := [(8, .int x9), (0, .ref (qa 0)), (1, .ref (qb 0)), (2, .int v2_94), (3, .int v3_94), (4, .int v4_94), (5, .int v5_94), (6, .int v6_94), (7, .int v7_94)]) hx hb dX1_collectSecondOrder_94 hl (k := 8) rfl (by rw [ex9]; rfl) (by decide) rfl (fun ls hl => ?_)
            have hf := lt_eq ex9 hf
            have hok := lt_ok ex9 hok
            refine lv_goto (tgt := 36) hx hb dX1_collectSecondOrder_97 (by decide) ?_
            exact ih_36 v2_94 v3_94 v4_94 v5_94 v6_94 v7_94 x9 t_94 b_94 _ _ hP hS _ (lv_sub hl [1, 2, 3, 4, 5, 6, 7, 8, 0] rfl) hf hok
          intro v2_36 v3_36 v4_36 v5_36 v6_36 v7_36 v8_36 t_36 b_36 H locs hP hS ls hl hf hok
          have hf : F = bX1_collectSecondOrder_L36 (pX1_collectSecondOrder_L3 n_3) (pX1_collectSecondOrder_L36 (pX1_collectSecondOrder_L3 n_3) n_36) v2_36 v3_36 v4_36 v5_36 v6_36 v7_36 v8_36 t_36 b_36 := hf
          have hok : kbX1_collectSecondOrder_L36 (kX1_collectSecondOrder_L3 n_3) (kX1_collectSecondOrder_L36 (kX1_collectSecondOrder_L3 n_3) n_36) v2_36 v3_36 v4_36 v5_36 v6_36 v7_36 v8_36 t_36 b_36 := hok
          refine lv_iload hx hb dX1_collectSecondOrder_36 (lv_at hl 8 rfl) ?_
          refine lv_aload_n hx hb dX1_collectSecondOrder_38 rfl (lv_at hl 1 rfl) ?_
          refine va_get (D := (dC, dI)) (ci := 1) (v := .ref (qb 3)) (C := RX2) (T := TX2) (N := 8) hx hb hts hin2 hown hK hP 3 rfl rfl 5 (by decide) fl39 (fun _ h9 => h9) rfl dX1_collectSecondOrder_39 ?_
          refine va_get (D := (dC, dI)) (ci := 6) (v := .int (b_36.1 5)) (C := RX9) (T := TX9) (N := 4) hx hb hts hin9 hown hK hP 6 rfl rfl 3 (by decide) fl20 (fun _ h9 => h9) rfl dX1_collectSecondOrder_42 ?_
          refine lv_icmp_ge (tgt := 100) hx hb dX1_collectSecondOrder_45 (by decide) (fun c6 => ?_) (fun c6 => ?_)
          · have hf := it_eq c6 hf
            have hok := it_ok c6 hok
            obtain ⟨x7, ex7⟩ : ∃ y : Int32, y = v5_36 + 1 := ⟨_, rfl⟩
            refine lv_iinc (v := x7) (lv' := [(5, .int x7), (0, .ref (qa 0)), (1, .ref (qb 0)), (2, .int v2_36), (3, .int v3_36), (4, .int v4_36), (6, .int v6_36), (7, .int v7_36), (8, .int v8_36)]) hx hb dX1_collectSecondOrder_100 hl (k := 5) rfl (by rw [ex7]; rfl) (by decide) rfl (fun ls hl => ?_)
            have hf := lt_eq ex7 hf
            have hok := lt_ok ex7 hok
            refine lv_goto (tgt := 3) hx hb dX1_collectSecondOrder_103 (by decide) ?_
            exact ih_3 v2_36 v3_36 v4_36 x7 t_36 b_36 _ _ hP hS _ (lv_sub hl [1, 2, 3, 4, 5, 0] rfl) hf hok
          · have hf := ie_eq c6 hf
            have hok := ie_ok c6 hok
            refine lv_iload hx hb dX1_collectSecondOrder_48 (lv_at hl 8 rfl) ?_
            refine lv_iload hx hb dX1_collectSecondOrder_50 (lv_at hl 5 rfl) ?_
            refine lv_icmp_eq (tgt := 94) hx hb dX1_collectSecondOrder_52 (by decide) (fun c8 => ?_) (fun c8 => ?_)
            · have hf := it_eq c8 hf
              have hok := it_ok c8 hok
              exact J_94 v2_36 v3_36 v4_36 v5_36 v6_36 v7_36 v8_36 t_36 b_36 _ _ hP hS _ (lv_sub hl [0, 1, 2, 3, 4, 5, 6, 7, 8] rfl) hf hok
            · have hf := ie_eq c8 hf
              have hok := ie_ok c8 hok
              refine lv_aload_n hx hb dX1_collectSecondOrder_55 rfl (lv_at hl 1 rfl) ?_
              refine lv_iload hx hb dX1_collectSecondOrder_56 (lv_at hl 8 rfl) ?_
              refine lv_iload hx hb dX1_collectSecondOrder_58 (lv_at hl 6 rfl) ?_
              obtain ⟨h10, hok⟩ := hok
              have hPc := hP.sub (ws' := bw qb cI b_36) [3, 4, 5, 6, 7, 8, 9, 10, 11] rfl
              refine gro_i (va_runV (As := [.int v8_36, .int v6_36]) (rest := []) ⟨hx, hb, hml, hown, hts⟩ (mX2_mirroredX l dC dI cI cB cO cL qb b_36 v8_36 v6_36  h10) (cwV 2 hts gX1_collectSecondOrder_X2_mirroredX rfl rfl rfl (by decide +kernel) ⟨Nat.le_of_ble_eq_true rfl, Nat.le_of_ble_eq_true rfl⟩) ⟨cP_blind, va_recv hK hPc (ci := 1) (q0 := 0) rfl rfl, cP_ok hPc hK hE⟩ rfl rfl hl.1 rfl (lv_room (Nat.le_of_ble_eq_true rfl)) dX1_collectSecondOrder_60 ⟨Nat.zero_le _, Nat.zero_le _⟩) ?_
              refine lv_topi (fun x11 ex11 => ?_)
              have hf := lt_eq ex11 hf
              have hok := lt_ok ex11 hok
              refine lv_istore (lv' := [(9, .int x11), (0, .ref (qa 0)), (1, .ref (qb 0)), (2, .int v2_36), (3, .int v3_36), (4, .int v4_36), (5, .int v5_36), (6, .int v6_36), (7, .int v7_36), (8, .int v8_36)]) hx hb dX1_collectSecondOrder_63 hl (by decide) rfl (fun ls hl => ?_)
              refine lv_aload_n hx hb dX1_collectSecondOrder_65 rfl (lv_at hl 2 rfl) ?_
              refine lv_iload hx hb dX1_collectSecondOrder_66 (lv_at hl 9 rfl) ?_
              refine lv_iload hx hb dX1_collectSecondOrder_68 (lv_at hl 8 rfl) ?_
              obtain ⟨h12, hok⟩ := hok
              have hPc := hP.sub (ws' := bw qb cI b_36) [3, 4, 5, 6, 7, 8, 9, 10, 11] rfl
              refine gro_i (va_runV (As := [.int v8_36, .int v7_36]) (rest := []) ⟨hx, hb, hml, hown, hts⟩ (mX2_mirroredY l dC dI cI cB cO cL qb b_36 v8_36 v7_36  h12) (cwV 2 hts gX1_collectSecondOrder_X2_mirroredY rfl rfl rfl (by decide +kernel) ⟨Nat.le_of_ble_eq_true rfl, Nat.le_of_ble_eq_true rfl⟩) ⟨cP_blind, va_recv hK hPc (ci := 1) (q0 := 0) rfl rfl, cP_ok hPc hK hE⟩ rfl rfl hl.1 rfl (lv_room (Nat.le_of_ble_eq_true rfl)) dX1_collectSecondOrder_70 ⟨Nat.zero_le _, Nat.zero_le _⟩) ?_
              refine lv_topi (fun x13 ex13 => ?_)
              have hf := lt_eq ex13 hf
              have hok := lt_ok ex13 hok
              refine lv_istore (lv' := [(10, .int x13), (9, .int x11), (0, .ref (qa 0)), (1, .ref (qb 0)), (2, .int v2_36), (3, .int v3_36), (4, .int v4_36), (5, .int v5_36), (6, .int v6_36), (7, .int v7_36), (8, .int v8_36)]) hx hb dX1_collectSecondOrder_73 hl (by decide) rfl (fun ls hl => ?_)
              refine lv_aload_n hx hb dX1_collectSecondOrder_75 rfl (lv_at hl 2 rfl) ?_
              refine lv_aload_n hx hb dX1_collectSecondOrder_76 rfl (lv_at hl 3 rfl) ?_
              refine lv_aload_n hx hb dX1_collectSecondOrder_77 rfl (lv_at hl 3 rfl) ?_
              refine lv_iload hx hb dX1_collectSecondOrder_78 (lv_at hl 6 rfl) ?_
              refine lv_iload hx hb dX1_collectSecondOrder_80 (lv_at hl 1 rfl) ?_
              refine lv_iload hx hb dX1_collectSecondOrder_82 (lv_at hl 0 rfl) ?_
              obtain ⟨h14, hok⟩ := hok
              have hPc := hP.sub (ws' := bw qb cI b_36) [3, 4, 5, 6, 7, 8, 9, 10, 11] rfl
              refine gro_i (va_runV (As := [.int v4_36, .int x11, .int x13]) (rest := [.ref (qb 0), .ref (qa 0)]) ⟨hx, hb, hml, hown, hts⟩ (mX2_wayTo l dC dI cI cB cO cL qb b_36 v4_36 x11 x13  h14) (cwV 3 hts gX1_collectSecondOrder_X2_wayTo rfl rfl rfl (by decide +kernel) ⟨Nat.le_of_ble_eq_true rfl, Nat.le_of_ble_eq_true rfl⟩) ⟨cP_blind, va_recv hK hPc (ci := 1) (q0 := 0) rfl rfl, cP_ok hPc hK hE⟩ rfl rfl hl.1 rfl (lv_room (Nat.le_of_ble_eq_true rfl)) dX1_collectSecondOrder_84 ⟨Nat.zero_le _, Nat.zero_le _⟩) ?_
              refine lv_iload hx hb dX1_collectSecondOrder_87 (lv_at hl 7 rfl) ?_
              refine lv_iload hx hb dX1_collectSecondOrder_89 (lv_at hl 10 rfl) ?_
              obtain ⟨h15, hok⟩ := hok
              refine gms_v (va_runV (As := [.ref (qb 0), .int (pX2_wayTo b_36 v4_36 x11 x13), .int v5_36, .int v8_36]) (rest := []) ⟨hx, hb, hml, hown, hts⟩ (mX1_append l dC dI cI cB cO cL qa qb t_36 b_36 (pX2_wayTo b_36 v4_36 x11 x13) v5_36 v8_36 (gD_any hD) h15) (cwV 4 hts gX1_collectSecondOrder_X1_append rfl rfl rfl (by decide +kernel) ⟨Nat.le_of_ble_eq_true rfl, Nat.le_of_ble_eq_true rfl⟩) ⟨cP_blind, va_recv hK hP (ci := 0) (q0 := 0) rfl rfl, cP_ok hP hK hE⟩ rfl rfl hl.1 rfl (lv_room (Nat.le_of_ble_eq_true rfl)) dX1_collectSecondOrder_91 ⟨Nat.zero_le _, Nat.zero_le _⟩) hP (gD_va hD rfl) hS (fun u17 H locs hw hP hS => ?_)
              have hP : va_P (dC, dI) vwCl (aw qa cI u17.1 ++ bw qb cI u17.2) H := hP
              have hf := lt_eq hw hf
              have hok := lt_ok hw hok
              exact J_94 v2_36 v3_36 v4_36 v5_36 v6_36 v7_36 v8_36 u17.1 u17.2 _ _ hP hS _ (lv_sub hl [2, 3, 4, 5, 6, 7, 8, 9, 10] rfl) hf hok
      intro v2_3 v3_3 v4_3 v5_3 t_3 b_3 H locs hP hS ls hl hf hok
      have hf : F = bX1_collectSecondOrder_L3 (pX1_collectSecondOrder_L3 n_3) v2_3 v3_3 v4_3 v5_3 t_3 b_3 := hf
      have hok : kbX1_collectSecondOrder_L3 (kX1_collectSecondOrder_L3 n_3) v2_3 v3_3 v4_3 v5_3 t_3 b_3 := hok
      refine lv_iload hx hb dX1_collectSecondOrder_3 (lv_at hl 5 rfl) ?_
      refine lv_aload_n hx hb dX1_collectSecondOrder_5 rfl (lv_at hl 1 rfl) ?_
      refine va_get (D := (dC, dI)) (ci := 1) (v := .ref (qb 3)) (C := RX2) (T := TX2) (N := 8) hx hb hts hin2 hown hK hP 3 rfl rfl 5 (by decide) fl39 (fun _ h9 => h9) rfl dX1_collectSecondOrder_6 ?_
      refine va_get (D := (dC, dI)) (ci := 6) (v := .int (b_3.1 5)) (C := RX9) (T := TX9) (N := 4) hx hb hts hin9 hown hK hP 6 rfl rfl 3 (by decide) fl20 (fun _ h9 => h9) rfl dX1_collectSecondOrder_9 ?_
      refine lv_icmp_ge (tgt := 106) hx hb dX1_collectSecondOrder_12 (by decide) (fun c1 => ?_) (fun c1 => ?_)
      · have hf := it_eq c1 hf
        exact e_mv C0 (hf.symm.trans hF) hP hS dX1_collectSecondOrder_106
      · have hf := ie_eq c1 hf
        have hok := ie_ok c1 hok
        refine lv_aload_n hx hb dX1_collectSecondOrder_15 rfl (lv_at hl 1 rfl) ?_
        refine lv_iload hx hb dX1_collectSecondOrder_16 (lv_at hl 5 rfl) ?_
        refine lv_iload_n hx hb dX1_collectSecondOrder_18 rfl (lv_at hl 2 rfl) ?_
        obtain ⟨h2, hok⟩ := hok
        have hPc := hP.sub (ws' := bw qb cI b_3) [3, 4, 5, 6, 7, 8, 9, 10, 11] rfl
        refine gro_i (va_runV (As := [.int v5_3, .int v2_3]) (rest := []) ⟨hx, hb, hml, hown, hts⟩ (mX2_mirroredX l dC dI cI cB cO cL qb b_3 v5_3 v2_3  h2) (cwV 2 hts gX1_collectSecondOrder_X2_mirroredX rfl rfl rfl (by decide +kernel) ⟨Nat.le_of_ble_eq_true rfl, Nat.le_of_ble_eq_true rfl⟩) ⟨cP_blind, va_recv hK hPc (ci := 1) (q0 := 0) rfl rfl, cP_ok hPc hK hE⟩ rfl rfl hl.1 rfl (lv_room (Nat.le_of_ble_eq_true rfl)) dX1_collectSecondOrder_19 ⟨Nat.zero_le _, Nat.zero_le _⟩) ?_
        refine lv_topi (fun x3 ex3 => ?_)
        have hf := lt_eq ex3 hf
        have hok := lt_ok ex3 hok
        refine lv_istore (lv' := [(6, .int x3), (0, .ref (qa 0)), (1, .ref (qb 0)), (2, .int v2_3), (3, .int v3_3), (4, .int v4_3), (5, .int v5_3)]) hx hb dX1_collectSecondOrder_22 hl (by decide) rfl (fun ls hl => ?_)
        refine lv_aload_n hx hb dX1_collectSecondOrder_24 rfl (lv_at hl 2 rfl) ?_
        refine lv_iload hx hb dX1_collectSecondOrder_25 (lv_at hl 6 rfl) ?_
        refine lv_iload_n hx hb dX1_collectSecondOrder_27 rfl (lv_at hl 4 rfl) ?_
        obtain ⟨h4, hok⟩ := hok
        have hPc := hP.sub (ws' := bw qb cI b_3) [3, 4, 5, 6, 7, 8, 9, 10, 11] rfl
        refine gro_i (va_runV (As := [.int v5_3, .int v3_3]) (rest := []) ⟨hx, hb, hml, hown, hts⟩ (mX2_mirroredY l dC dI cI cB cO cL qb b_3 v5_3 v3_3  h4) (cwV 2 hts gX1_collectSecondOrder_X2_mirroredY rfl rfl rfl (by decide +kernel) ⟨Nat.le_of_ble_eq_true rfl, Nat.le_of_ble_eq_true rfl⟩) ⟨cP_blind, va_recv hK hPc (ci := 1) (q0 := 0) rfl rfl, cP_ok hPc hK hE⟩ rfl rfl hl.1 rfl (lv_room (Nat.le_of_ble_eq_true rfl)) dX1_collectSecondOrder_28 ⟨Nat.zero_le _, Nat.zero_le _⟩) ?_
        refine lv_topi (fun x5 ex5 => ?_)
        have hf := lt_eq ex5 hf
        have hok := lt_ok ex5 hok
        refine lv_istore (lv' := [(7, .int x5), (6, .int x3), (0, .ref (qa 0)), (1, .ref (qb 0)), (2, .int v2_3), (3, .int v3_3), (4, .int v4_3), (5, .int v5_3)]) hx hb dX1_collectSecondOrder_31 hl (by decide) rfl (fun ls hl => ?_)
        refine lv_iconst (v := 0) hx hb dX1_collectSecondOrder_33 (by decide) ?_
        refine lv_istore (lv' := [(8, .int 0), (7, .int x5), (6, .int x3), (0, .ref (qa 0)), (1, .ref (qb 0)), (2, .int v2_3), (3, .int v3_3), (4, .int v4_3), (5, .int v5_3)]) hx hb dX1_collectSecondOrder_34 hl (by decide) rfl (fun ls hl => ?_)
        exact J_36 fu v2_3 v3_3 v4_3 v5_3 x3 x5 0 t_3 b_3 _ _ hP hS _ (lv_sub hl [3, 4, 5, 6, 7, 8, 2, 1, 0] rfl) hf hok
  refine lv_iconst (v := 0) hx hb dX1_collectSecondOrder_0 (by decide) ?_
  refine lv_istore (lv' := [(5, .int 0), (0, .ref (qa 0)), (1, .ref (qb 0)), (2, .int a2), (3, .int a3), (4, .int a4)]) hx hb dX1_collectSecondOrder_1 hl (by decide) rfl (fun ls hl => ?_)
  exact J_3 fu a2 a3 a4 0 t b _ _ hP hS _ (lv_sub hl [1, 2, 3, 4, 5, 0] rfl) hf hok
noncomputable def bX1_collect_L39   (q_39 : Int32 → Int32 → Int32 → Int32 → TS → BS → (TS × BS)) (v2_39 : Int32) (v3_39 : Int32) (v4_39 : Int32) (v5_39 : Int32) (t_39 : TS) (b_39 : BS) : TS × BS := if (b_39.1 5) ≤ v5_39 then (if (pX2_setting b_39 1) = 2 then (lt (pX1_collectSecondOrder t_39 b_39 v2_39 v3_39 v4_39) fun (u9 : TS × BS) => (u9.1, u9.2)) else ((t_39, b_39))) else (lt (pX1_append t_39 b_39 (pX2_wayTo b_39 v4_39 (pX2_mirroredX b_39 v5_39 v2_39) (pX2_mirroredY b_39 v5_39 v3_39)) v5_39 (-1000000000)) fun (u15 : TS × BS) => lt (v5_39 + 1) fun (x16 : Int32) => q_39 v2_39 v3_39 v4_39 x16 u15.1 u15.2)
noncomputable def pX1_collect_L39   : Nat → Int32 → Int32 → Int32 → Int32 → TS → BS → (TS × BS)
  | 0 => fun _ _ _ _ t_39 b_39 => (t_39, b_39)
  | n + 1 => bX1_collect_L39   (pX1_collect_L39   n)
def kbX1_collect_L39   (Q_39 : Int32 → Int32 → Int32 → Int32 → TS → BS → Prop) (v2_39 : Int32) (v3_39 : Int32) (v4_39 : Int32) (v5_39 : Int32) (t_39 : TS) (b_39 : BS) : Prop := if (b_39.1 5) ≤ v5_39 then ((kX2_setting b_39 1) ∧ (if (pX2_setting b_39 1) = 2 then (kX1_collectSecondOrder t_39 b_39 v2_39 v3_39 v4_39) else (True))) else ((kX2_mirroredX b_39 v5_39 v2_39) ∧ ((kX2_mirroredY b_39 v5_39 v3_39) ∧ ((kX2_wayTo b_39 v4_39 (pX2_mirroredX b_39 v5_39 v2_39) (pX2_mirroredY b_39 v5_39 v3_39)) ∧ ((kX1_append t_39 b_39 (pX2_wayTo b_39 v4_39 (pX2_mirroredX b_39 v5_39 v2_39) (pX2_mirroredY b_39 v5_39 v3_39)) v5_39 (-1000000000)) ∧ (lt (pX1_append t_39 b_39 (pX2_wayTo b_39 v4_39 (pX2_mirroredX b_39 v5_39 v2_39) (pX2_mirroredY b_39 v5_39 v3_39)) v5_39 (-1000000000)) fun (u15 : TS × BS) => lt (v5_39 + 1) fun (x16 : Int32) => Q_39 v2_39 v3_39 v4_39 x16 u15.1 u15.2)))))
noncomputable def kX1_collect_L39   : Nat → Int32 → Int32 → Int32 → Int32 → TS → BS → Prop
  | 0 => fun _ _ _ _ _ _ => False
  | n + 1 => kbX1_collect_L39   (kX1_collect_L39   n)
noncomputable def pX1_collect_L36   (v2_36 : Int32) (v3_36 : Int32) (v4_36 : Int32) (t_36 : TS) (b_36 : BS) : TS × BS := pX1_collect_L39 fu v2_36 v3_36 v4_36 0 t_36 b_36
def kX1_collect_L36   (v2_36 : Int32) (v3_36 : Int32) (v4_36 : Int32) (t_36 : TS) (b_36 : BS) : Prop := kX1_collect_L39 fu v2_36 v3_36 v4_36 0 t_36 b_36
noncomputable def pX1_collect (t : TS) (b : BS) (a2 : Int32) (a3 : Int32) (a4 : Int32) : TS × BS := lt ((0, t.2)) fun (t_1 : TS) => if (pX2_isScreened b a2 a3 a4) = true then (pX1_collect_L36 a2 a3 a4 t_1 b) else (lt (pX1_append t_1 b (pX2_wayTo b a4 a2 a3) (-1000000000) (-1000000000)) fun (u20 : TS × BS) => pX1_collect_L36 a2 a3 a4 u20.1 u20.2)
def kX1_collect (t : TS) (b : BS) (a2 : Int32) (a3 : Int32) (a4 : Int32) : Prop := lt ((0, t.2)) fun (t_1 : TS) => (kX2_isScreened b a2 a3 a4) ∧ (if (pX2_isScreened b a2 a3 a4) = true then (kX1_collect_L36 a2 a3 a4 t_1 b) else ((kX2_wayTo b a4 a2 a3) ∧ ((kX1_append t_1 b (pX2_wayTo b a4 a2 a3) (-1000000000) (-1000000000)) ∧ (lt (pX1_append t_1 b (pX2_wayTo b a4 a2 a3) (-1000000000) (-1000000000)) fun (u20 : TS × BS) => kX1_collect_L36 a2 a3 a4 u20.1 u20.2))))
abbrev rX1_collect : Room := { frames := 4, cells := 0, slots := 0, locals := 102 }
set_option maxHeartbeats 4000000 in
set_option maxRecDepth 100000 in
theorem mX1_collect (l : Launch) (dC : Nat → ClassId) (dI : Nat → Nat → Nat) (cI cB cO cL : ClassId) (qa : Nat → Nat) (qb : Nat → Nat) (t : TS) (b : BS) (a2 : Int32) (a3 : Int32) (a4 : Int32) (hI : gD (fun _ => True) (aAd qa ++ bAd qb)) (hok : kX1_collect t b a2 a3 a4) : Met l yX1_collect wsX1_collect rX1_collect (cP (dC, dI) (tYS cI cB cO cL) (aw qa cI t ++ bw qb cI b) [.ref (qa 0), .ref (qb 0), .int a2, .int a3, .int a4]) (gQv (dC, dI) (fun z9 : TS × BS => aw qa cI z9.1 ++ bw qb cI z9.2) (wA (aw qa cI t ++ bw qb cI b)) (pX1_collect t b a2 a3 a4)) 0 0 (wA (aw qa cI t ++ bw qb cI b)) := by
  refine cMet (cc := cX1_collect) (maxL := 6) (ret := none) [(0, .ref (qa 0)), (1, .ref (qb 0)), (2, .int a2), (3, .int a3), (4, .int a4)] (by decide) rfl rfl rfl ?_
  intro p e s mi below meth c C0 hK hE hP ls hl
  obtain ⟨hx, hb, hr, hml, hown, hts, hlocks⟩ := id C0
  have hown : s.vm.findClass RX1 = some mi.cls := hown
  have hS : va_S (wA (aw qa cI t ++ bw qb cI b)) s.heap s.heap [] := va_S.rf
  have hD : gD (wA (aw qa cI t ++ bw qb cI b)) (aAd qa ++ bAd qb) := gD_wA (ws := aw qa cI t ++ bw qb cI b) hI
  have hP : va_P (dC, dI) vwCl (aw qa cI t ++ bw qb cI b) s.heap := hP
  obtain ⟨F, hF⟩ : ∃ F, F = pX1_collect t b a2 a3 a4 := ⟨_, rfl⟩
  have hf := hF
  have hin1 : ∀ w ∈ u_ws RX1 TX1 1, w ∈ wsX1_collect := by decide +kernel
  have hin9 : ∀ w ∈ u_ws RX9 TX9 4, w ∈ wsX1_collect := by decide +kernel
  have hin2 : ∀ w ∈ u_ws RX2 TX2 8, w ∈ wsX1_collect := by decide +kernel
  have fl14 := hts (.fieldLink RX1 14 "ClickBench$Arrivals" "list" "LClickBench$Table;") (by decide +kernel)
  have fl20 := hts (.fieldLink RX1 20 "ClickBench$Table" "count" "I") (by decide +kernel)
  have fl39 := hts (.fieldLink RX1 39 "ClickBench$Bench" "walls" "LClickBench$Table;") (by decide +kernel)
  have cn34 := hts (.constant RX1 34 (-1000000000)) (by decide +kernel)
  have J_39 : ∀ (n_39 : Nat) (v2_39 : Int32) (v3_39 : Int32) (v4_39 : Int32) (v5_39 : Int32) (t_39 : TS) (b_39 : BS) (H : Heap) (locs : List Loc), va_P (dC, dI) vwCl (aw qa cI t_39 ++ bw qb cI b_39) H → va_S (wA (aw qa cI t ++ bw qb cI b)) s.heap H locs → ∀ ls : Array Slot, lv_has ls 6 [(0, .ref (qa 0)), (1, .ref (qb 0)), (2, .int v2_39), (3, .int v3_39), (4, .int v4_39), (5, .int v5_39)] → F = pX1_collect_L39 n_39 v2_39 v3_39 v4_39 v5_39 t_39 b_39 → kX1_collect_L39 n_39 v2_39 v3_39 v4_39 v5_39 t_39 b_39 → W p l e rX1_collect s mi ([.ref (qa 0), .ref (qb 0), .int a2, .int a3, .int a4] : List Value).toArray below meth c H locs 0 0 (MQ below (gQv (dC, dI) (fun z9 : TS × BS => aw qa cI z9.1 ++ bw qb cI z9.2) (wA (aw qa cI t ++ bw qb cI b)) (pX1_collect t b a2 a3 a4)) ([.ref (qa 0), .ref (qb 0), .int a2, .int a3, .int a4] : List Value).toArray s 0 0 (wA (aw qa cI t ++ bw qb cI b))) (F0 mi 39 ls []) := by
    intro n_39
    induction n_39 with
    | zero =>
      intro v2_39 v3_39 v4_39 v5_39 t_39 b_39 H locs hP hS ls hl hf hok
      exact absurd hok (fun h => h)
    | succ n_39 ih_39 =>
      intro v2_39 v3_39 v4_39 v5_39 t_39 b_39 H locs hP hS ls hl hf hok
      have hf : F = bX1_collect_L39 (pX1_collect_L39 n_39) v2_39 v3_39 v4_39 v5_39 t_39 b_39 := hf
      have hok : kbX1_collect_L39 (kX1_collect_L39 n_39) v2_39 v3_39 v4_39 v5_39 t_39 b_39 := hok
      refine lv_iload hx hb dX1_collect_39 (lv_at hl 5 rfl) ?_
      refine lv_aload_n hx hb dX1_collect_41 rfl (lv_at hl 1 rfl) ?_
      refine va_get (D := (dC, dI)) (ci := 1) (v := .ref (qb 3)) (C := RX2) (T := TX2) (N := 8) hx hb hts hin2 hown hK hP 3 rfl rfl 5 (by decide) fl39 (fun _ h9 => h9) rfl dX1_collect_42 ?_
      refine va_get (D := (dC, dI)) (ci := 6) (v := .int (b_39.1 5)) (C := RX9) (T := TX9) (N := 4) hx hb hts hin9 hown hK hP 6 rfl rfl 3 (by decide) fl20 (fun _ h9 => h9) rfl dX1_collect_45 ?_
      refine lv_icmp_ge (tgt := 86) hx hb dX1_collect_48 (by decide) (fun c4 => ?_) (fun c4 => ?_)
      · have hf := it_eq c4 hf
        have hok := it_ok c4 hok
        refine lv_aload_n hx hb dX1_collect_86 rfl (lv_at hl 1 rfl) ?_
        refine lv_iconst (v := 1) hx hb dX1_collect_87 (by decide) ?_
        obtain ⟨h5, hok⟩ := hok
        have hPc := hP.sub (ws' := bw qb cI b_39) [3, 4, 5, 6, 7, 8, 9, 10, 11] rfl
        refine gro_i (va_runV (As := [.int 1]) (rest := []) ⟨hx, hb, hml, hown, hts⟩ (mX2_setting l dC dI cI cB cO cL qb b_39 1  h5) (cwV 1 hts gX1_collect_X2_setting rfl rfl rfl (by decide +kernel) ⟨Nat.le_of_ble_eq_true rfl, Nat.le_of_ble_eq_true rfl⟩) ⟨cP_blind, va_recv hK hPc (ci := 1) (q0 := 0) rfl rfl, cP_ok hPc hK hE⟩ rfl rfl hl.1 rfl (lv_room (Nat.le_of_ble_eq_true rfl)) dX1_collect_88 ⟨Nat.zero_le _, Nat.zero_le _⟩) ?_
        refine lv_iconst (v := 2) hx hb dX1_collect_91 (by decide) ?_
        refine lv_icmp_ne (tgt := 104) hx hb dX1_collect_92 (by decide) (fun c6 => ?_) (fun c6 => ?_)
        · have hf := ie_eq c6 hf
          exact e_mv C0 (hf.symm.trans hF) hP hS dX1_collect_104
        · have hf := it_eq c6 hf
          have hok := it_ok c6 hok
          refine lv_aload_n hx hb dX1_collect_95 rfl (lv_at hl 0 rfl) ?_
          refine lv_aload_n hx hb dX1_collect_96 rfl (lv_at hl 1 rfl) ?_
          refine lv_iload_n hx hb dX1_collect_97 rfl (lv_at hl 2 rfl) ?_
          refine lv_iload_n hx hb dX1_collect_98 rfl (lv_at hl 3 rfl) ?_
          refine lv_iload hx hb dX1_collect_99 (lv_at hl 4 rfl) ?_
          have h7 : kX1_collectSecondOrder t_39 b_39 v2_39 v3_39 v4_39 := hok
          refine gms_v (va_runV (As := [.ref (qb 0), .int v2_39, .int v3_39, .int v4_39]) (rest := []) ⟨hx, hb, hml, hown, hts⟩ (mX1_collectSecondOrder l dC dI cI cB cO cL qa qb t_39 b_39 v2_39 v3_39 v4_39 (gD_any hD) h7) (cwV 4 hts gX1_collect_X1_collectSecondOrder rfl rfl rfl (by decide +kernel) ⟨Nat.le_of_ble_eq_true rfl, Nat.le_of_ble_eq_true rfl⟩) ⟨cP_blind, va_recv hK hP (ci := 0) (q0 := 0) rfl rfl, cP_ok hP hK hE⟩ rfl rfl hl.1 rfl (lv_room (Nat.le_of_ble_eq_true rfl)) dX1_collect_101 ⟨Nat.zero_le _, Nat.zero_le _⟩) hP (gD_va hD rfl) hS (fun u9 H locs hw hP hS => ?_)
          have hP : va_P (dC, dI) vwCl (aw qa cI u9.1 ++ bw qb cI u9.2) H := hP
          have hf := lt_eq hw hf
          exact e_mv C0 (hf.symm.trans hF) hP hS dX1_collect_104
      · have hf := ie_eq c4 hf
        have hok := ie_ok c4 hok
        refine lv_aload_n hx hb dX1_collect_51 rfl (lv_at hl 0 rfl) ?_
        refine lv_aload_n hx hb dX1_collect_52 rfl (lv_at hl 1 rfl) ?_
        refine lv_aload_n hx hb dX1_collect_53 rfl (lv_at hl 1 rfl) ?_
        refine lv_iload hx hb dX1_collect_54 (lv_at hl 4 rfl) ?_
        refine lv_aload_n hx hb dX1_collect_56 rfl (lv_at hl 1 rfl) ?_
        refine lv_iload hx hb dX1_collect_57 (lv_at hl 5 rfl) ?_
        refine lv_iload_n hx hb dX1_collect_59 rfl (lv_at hl 2 rfl) ?_
        obtain ⟨h10, hok⟩ := hok
        have hPc := hP.sub (ws' := bw qb cI b_39) [3, 4, 5, 6, 7, 8, 9, 10, 11] rfl
        refine gro_i (va_runV (As := [.int v5_39, .int v2_39]) (rest := [.int v4_39, .ref (qb 0), .ref (qb 0), .ref (qa 0)]) ⟨hx, hb, hml, hown, hts⟩ (mX2_mirroredX l dC dI cI cB cO cL qb b_39 v5_39 v2_39  h10) (cwV 2 hts gX1_collect_X2_mirroredX rfl rfl rfl (by decide +kernel) ⟨Nat.le_of_ble_eq_true rfl, Nat.le_of_ble_eq_true rfl⟩) ⟨cP_blind, va_recv hK hPc (ci := 1) (q0 := 0) rfl rfl, cP_ok hPc hK hE⟩ rfl rfl hl.1 rfl (lv_room (Nat.le_of_ble_eq_true rfl)) dX1_collect_60 ⟨Nat.zero_le _, Nat.zero_le _⟩) ?_
        refine lv_aload_n hx hb dX1_collect_63 rfl (lv_at hl 1 rfl) ?_
        refine lv_iload hx hb dX1_collect_64 (lv_at hl 5 rfl) ?_
        refine lv_iload_n hx hb dX1_collect_66 rfl (lv_at hl 3 rfl) ?_
        obtain ⟨h11, hok⟩ := hok
        have hPc := hP.sub (ws' := bw qb cI b_39) [3, 4, 5, 6, 7, 8, 9, 10, 11] rfl
        refine gro_i (va_runV (As := [.int v5_39, .int v3_39]) (rest := [.int (pX2_mirroredX b_39 v5_39 v2_39), .int v4_39, .ref (qb 0), .ref (qb 0), .ref (qa 0)]) ⟨hx, hb, hml, hown, hts⟩ (mX2_mirroredY l dC dI cI cB cO cL qb b_39 v5_39 v3_39  h11) (cwV 2 hts gX1_collect_X2_mirroredY rfl rfl rfl (by decide +kernel) ⟨Nat.le_of_ble_eq_true rfl, Nat.le_of_ble_eq_true rfl⟩) ⟨cP_blind, va_recv hK hPc (ci := 1) (q0 := 0) rfl rfl, cP_ok hPc hK hE⟩ rfl rfl hl.1 rfl (lv_room (Nat.le_of_ble_eq_true rfl)) dX1_collect_67 ⟨Nat.zero_le _, Nat.zero_le _⟩) ?_
        obtain ⟨h12, hok⟩ := hok
        have hPc := hP.sub (ws' := bw qb cI b_39) [3, 4, 5, 6, 7, 8, 9, 10, 11] rfl
        refine gro_i (va_runV (As := [.int v4_39, .int (pX2_mirroredX b_39 v5_39 v2_39), .int (pX2_mirroredY b_39 v5_39 v3_39)]) (rest := [.ref (qb 0), .ref (qa 0)]) ⟨hx, hb, hml, hown, hts⟩ (mX2_wayTo l dC dI cI cB cO cL qb b_39 v4_39 (pX2_mirroredX b_39 v5_39 v2_39) (pX2_mirroredY b_39 v5_39 v3_39)  h12) (cwV 3 hts gX1_collect_X2_wayTo rfl rfl rfl (by decide +kernel) ⟨Nat.le_of_ble_eq_true rfl, Nat.le_of_ble_eq_true rfl⟩) ⟨cP_blind, va_recv hK hPc (ci := 1) (q0 := 0) rfl rfl, cP_ok hPc hK hE⟩ rfl rfl hl.1 rfl (lv_room (Nat.le_of_ble_eq_true rfl)) dX1_collect_70 ⟨Nat.zero_le _, Nat.zero_le _⟩) ?_
        refine lv_iload hx hb dX1_collect_73 (lv_at hl 5 rfl) ?_
        refine lv_ldc (v := (-1000000000)) hx hb hown cn34 dX1_collect_75 ?_
        obtain ⟨h13, hok⟩ := hok
        refine gms_v (va_runV (As := [.ref (qb 0), .int (pX2_wayTo b_39 v4_39 (pX2_mirroredX b_39 v5_39 v2_39) (pX2_mirroredY b_39 v5_39 v3_39)), .int v5_39, .int (-1000000000)]) (rest := []) ⟨hx, hb, hml, hown, hts⟩ (mX1_append l dC dI cI cB cO cL qa qb t_39 b_39 (pX2_wayTo b_39 v4_39 (pX2_mirroredX b_39 v5_39 v2_39) (pX2_mirroredY b_39 v5_39 v3_39)) v5_39 (-1000000000) (gD_any hD) h13) (cwV 4 hts gX1_collect_X1_append rfl rfl rfl (by decide +kernel) ⟨Nat.le_of_ble_eq_true rfl, Nat.le_of_ble_eq_true rfl⟩) ⟨cP_blind, va_recv hK hP (ci := 0) (q0 := 0) rfl rfl, cP_ok hP hK hE⟩ rfl rfl hl.1 rfl (lv_room (Nat.le_of_ble_eq_true rfl)) dX1_collect_77 ⟨Nat.zero_le _, Nat.zero_le _⟩) hP (gD_va hD rfl) hS (fun u15 H locs hw hP hS => ?_)
        have hP : va_P (dC, dI) vwCl (aw qa cI u15.1 ++ bw qb cI u15.2) H := hP
        have hf := lt_eq hw hf
        have hok := lt_ok hw hok
        obtain ⟨x16, ex16⟩ : ∃ y : Int32, y = v5_39 + 1 := ⟨_, rfl⟩
        refine lv_iinc (v := x16) (lv' := [(5, .int x16), (0, .ref (qa 0)), (1, .ref (qb 0)), (2, .int v2_39), (3, .int v3_39), (4, .int v4_39)]) hx hb dX1_collect_80 hl (k := 5) rfl (by rw [ex16]; rfl) (by decide) rfl (fun ls hl => ?_)
        have hf := lt_eq ex16 hf
        have hok := lt_ok ex16 hok
        refine lv_goto (tgt := 39) hx hb dX1_collect_83 (by decide) ?_
        exact ih_39 v2_39 v3_39 v4_39 x16 u15.1 u15.2 _ _ hP hS _ (lv_sub hl [1, 2, 3, 4, 5, 0] rfl) hf hok
  have J_36 : ∀ (v2_36 : Int32) (v3_36 : Int32) (v4_36 : Int32) (t_36 : TS) (b_36 : BS) (H : Heap) (locs : List Loc), va_P (dC, dI) vwCl (aw qa cI t_36 ++ bw qb cI b_36) H → va_S (wA (aw qa cI t ++ bw qb cI b)) s.heap H locs → ∀ ls : Array Slot, lv_has ls 6 [(0, .ref (qa 0)), (1, .ref (qb 0)), (2, .int v2_36), (3, .int v3_36), (4, .int v4_36)] → F = pX1_collect_L36 v2_36 v3_36 v4_36 t_36 b_36 → kX1_collect_L36 v2_36 v3_36 v4_36 t_36 b_36 → W p l e rX1_collect s mi ([.ref (qa 0), .ref (qb 0), .int a2, .int a3, .int a4] : List Value).toArray below meth c H locs 0 0 (MQ below (gQv (dC, dI) (fun z9 : TS × BS => aw qa cI z9.1 ++ bw qb cI z9.2) (wA (aw qa cI t ++ bw qb cI b)) (pX1_collect t b a2 a3 a4)) ([.ref (qa 0), .ref (qb 0), .int a2, .int a3, .int a4] : List Value).toArray s 0 0 (wA (aw qa cI t ++ bw qb cI b))) (F0 mi 36 ls []) := by
    intro v2_36 v3_36 v4_36 t_36 b_36 H locs hP hS ls hl hf hok
    refine lv_iconst (v := 0) hx hb dX1_collect_36 (by decide) ?_
    refine lv_istore (lv' := [(5, .int 0), (0, .ref (qa 0)), (1, .ref (qb 0)), (2, .int v2_36), (3, .int v3_36), (4, .int v4_36)]) hx hb dX1_collect_37 hl (by decide) rfl (fun ls hl => ?_)
    exact J_39 fu v2_36 v3_36 v4_36 0 t_36 b_36 _ _ hP hS _ (lv_sub hl [1, 2, 3, 4, 5, 0] rfl) hf hok
  refine lv_aload_n hx hb dX1_collect_0 rfl (lv_at hl 0 rfl) ?_
  refine va_get (D := (dC, dI)) (ci := 0) (v := .ref (qa 1)) (C := RX1) (T := TX1) (N := 1) hx hb hts hin1 hown hK hP 0 rfl rfl 0 (by decide) fl14 (fun _ h9 => h9) rfl dX1_collect_1 ?_
  refine lv_iconst (v := 0) hx hb dX1_collect_4 (by decide) ?_
  refine va_put (D := (dC, dI)) (ci := 6) (v := .int 0) (ty := .int) (C := RX9) (T := TX9) (N := 4) hx hb hts hin9 tyX9 tyX9_ok nmX9 hown hK hP (gD_va hD rfl) hS 1 rfl rfl 3 (by decide) fl20 (fun _ h9 => h9) rfl (by decide +kernel) rfl rfl (Nat.le_of_ble_eq_true rfl) dX1_collect_5 (fun H locs hP _ hS => ?_)
  obtain ⟨t_1, et_1⟩ : ∃ z9 : TS, z9 = (0, t.2) := ⟨_, rfl⟩
  have hP : va_P (dC, dI) vwCl (aw qa cI t_1 ++ bw qb cI b) H := by rw [et_1]; exact hP
  have hf := lt_eq et_1 hf
  have hok := lt_ok et_1 hok
  refine lv_aload_n hx hb dX1_collect_8 rfl (lv_at hl 1 rfl) ?_
  refine lv_iload_n hx hb dX1_collect_9 rfl (lv_at hl 2 rfl) ?_
  refine lv_iload_n hx hb dX1_collect_10 rfl (lv_at hl 3 rfl) ?_
  refine lv_iload hx hb dX1_collect_11 (lv_at hl 4 rfl) ?_
  obtain ⟨h2, hok⟩ := hok
  have hPc := hP.sub (ws' := bw qb cI b) [3, 4, 5, 6, 7, 8, 9, 10, 11] rfl
  refine gro_i (va_runV (As := [.int a2, .int a3, .int a4]) (rest := []) ⟨hx, hb, hml, hown, hts⟩ (mX2_isScreened l dC dI cI cB cO cL qb b a2 a3 a4  h2) (cwV 3 hts gX1_collect_X2_isScreened rfl rfl rfl (by decide +kernel) ⟨Nat.le_of_ble_eq_true rfl, Nat.le_of_ble_eq_true rfl⟩) ⟨cP_blind, va_recv hK hPc (ci := 1) (q0 := 0) rfl rfl, cP_ok hPc hK hE⟩ rfl rfl hl.1 rfl (lv_room (Nat.le_of_ble_eq_true rfl)) dX1_collect_13 ⟨Nat.zero_le _, Nat.zero_le _⟩) ?_
  refine lv_if_ne (tgt := 36) hx hb dX1_collect_16 (by decide) (fun c3 => ?_) (fun c3 => ?_)
  · have c3 := bz_t c3
    have hf := it_eq c3 hf
    have hok := it_ok c3 hok
    exact J_36 a2 a3 a4 t_1 b _ _ hP hS _ (lv_sub hl [0, 1, 2, 3, 4] rfl) hf hok
  · have c3 := bz_f c3
    have hf := ie_eq c3 hf
    have hok := ie_ok c3 hok
    refine lv_aload_n hx hb dX1_collect_19 rfl (lv_at hl 0 rfl) ?_
    refine lv_aload_n hx hb dX1_collect_20 rfl (lv_at hl 1 rfl) ?_
    refine lv_aload_n hx hb dX1_collect_21 rfl (lv_at hl 1 rfl) ?_
    refine lv_iload hx hb dX1_collect_22 (lv_at hl 4 rfl) ?_
    refine lv_iload_n hx hb dX1_collect_24 rfl (lv_at hl 2 rfl) ?_
    refine lv_iload_n hx hb dX1_collect_25 rfl (lv_at hl 3 rfl) ?_
    obtain ⟨h17, hok⟩ := hok
    have hPc := hP.sub (ws' := bw qb cI b) [3, 4, 5, 6, 7, 8, 9, 10, 11] rfl
    refine gro_i (va_runV (As := [.int a4, .int a2, .int a3]) (rest := [.ref (qb 0), .ref (qa 0)]) ⟨hx, hb, hml, hown, hts⟩ (mX2_wayTo l dC dI cI cB cO cL qb b a4 a2 a3  h17) (cwV 3 hts gX1_collect_X2_wayTo rfl rfl rfl (by decide +kernel) ⟨Nat.le_of_ble_eq_true rfl, Nat.le_of_ble_eq_true rfl⟩) ⟨cP_blind, va_recv hK hPc (ci := 1) (q0 := 0) rfl rfl, cP_ok hPc hK hE⟩ rfl rfl hl.1 rfl (lv_room (Nat.le_of_ble_eq_true rfl)) dX1_collect_26 ⟨Nat.zero_le _, Nat.zero_le _⟩) ?_
    refine lv_ldc (v := (-1000000000)) hx hb hown cn34 dX1_collect_29 ?_
    refine lv_ldc (v := (-1000000000)) hx hb hown cn34 dX1_collect_31 ?_
    obtain ⟨h18, hok⟩ := hok
    refine gms_v (va_runV (As := [.ref (qb 0), .int (pX2_wayTo b a4 a2 a3), .int (-1000000000), .int (-1000000000)]) (rest := []) ⟨hx, hb, hml, hown, hts⟩ (mX1_append l dC dI cI cB cO cL qa qb t_1 b (pX2_wayTo b a4 a2 a3) (-1000000000) (-1000000000) (gD_any hD) h18) (cwV 4 hts gX1_collect_X1_append rfl rfl rfl (by decide +kernel) ⟨Nat.le_of_ble_eq_true rfl, Nat.le_of_ble_eq_true rfl⟩) ⟨cP_blind, va_recv hK hP (ci := 0) (q0 := 0) rfl rfl, cP_ok hP hK hE⟩ rfl rfl hl.1 rfl (lv_room (Nat.le_of_ble_eq_true rfl)) dX1_collect_33 ⟨Nat.zero_le _, Nat.zero_le _⟩) hP (gD_va hD rfl) hS (fun u20 H locs hw hP hS => ?_)
    have hP : va_P (dC, dI) vwCl (aw qa cI u20.1 ++ bw qb cI u20.2) H := hP
    have hf := lt_eq hw hf
    have hok := lt_ok hw hok
    exact J_36 a2 a3 a4 u20.1 u20.2 _ _ hP hS _ (lv_sub hl [0, 1, 2, 3, 4] rfl) hf hok
noncomputable def pX6_write_L34   (v2_34 : Int32) (v3_34 : Int32) (t1_34 : Int32) (t2_34 : Int32) (t3_34 : Int32) (t_34 : TS) (b_34 : BS) : TS × BS := lt (pX9_put 8 9 72 (b_34.1 4, b_34.2 0) t1_34 t2_34 t3_34) fun (u7 : TS) => lt (pX9_put 8 9 72 ((bst b_34 0 u7).1 4, (bst b_34 0 u7).2 0) v2_34 5 (pX9_at 17 6 102 t_34 v3_34 0)) fun (u11 : TS) => lt (pX9_put 8 9 72 ((bst (bst b_34 0 u7) 0 u11).1 4, (bst (bst b_34 0 u7) 0 u11).2 0) v2_34 6 (pX9_at 17 6 102 t_34 v3_34 3)) fun (u15 : TS) => lt (pX9_put 8 9 72 ((bst (bst (bst b_34 0 u7) 0 u11) 0 u15).1 4, (bst (bst (bst b_34 0 u7) 0 u11) 0 u15).2 0) v2_34 7 (pX9_at 17 6 102 t_34 v3_34 4)) fun (u19 : TS) => lt (pX9_put 8 9 72 ((bst (bst (bst (bst b_34 0 u7) 0 u11) 0 u15) 0 u19).1 4, (bst (bst (bst (bst b_34 0 u7) 0 u11) 0 u15) 0 u19).2 0) v2_34 8 (pX9_at 17 6 102 t_34 v3_34 5)) fun (u23 : TS) => (t_34, bst (bst (bst (bst (bst b_34 0 u7) 0 u11) 0 u15) 0 u19) 0 u23)
def kX6_write_L34   (v2_34 : Int32) (v3_34 : Int32) (t1_34 : Int32) (t2_34 : Int32) (t3_34 : Int32) (t_34 : TS) (b_34 : BS) : Prop := (kX9_put 8 9 72 (b_34.1 4, b_34.2 0) t1_34 t2_34 t3_34) ∧ (lt (pX9_put 8 9 72 (b_34.1 4, b_34.2 0) t1_34 t2_34 t3_34) fun (u7 : TS) => (kX9_at 17 6 102 t_34 v3_34 0) ∧ ((kX9_put 8 9 72 ((bst b_34 0 u7).1 4, (bst b_34 0 u7).2 0) v2_34 5 (pX9_at 17 6 102 t_34 v3_34 0)) ∧ (lt (pX9_put 8 9 72 ((bst b_34 0 u7).1 4, (bst b_34 0 u7).2 0) v2_34 5 (pX9_at 17 6 102 t_34 v3_34 0)) fun (u11 : TS) => (kX9_at 17 6 102 t_34 v3_34 3) ∧ ((kX9_put 8 9 72 ((bst (bst b_34 0 u7) 0 u11).1 4, (bst (bst b_34 0 u7) 0 u11).2 0) v2_34 6 (pX9_at 17 6 102 t_34 v3_34 3)) ∧ (lt (pX9_put 8 9 72 ((bst (bst b_34 0 u7) 0 u11).1 4, (bst (bst b_34 0 u7) 0 u11).2 0) v2_34 6 (pX9_at 17 6 102 t_34 v3_34 3)) fun (u15 : TS) => (kX9_at 17 6 102 t_34 v3_34 4) ∧ ((kX9_put 8 9 72 ((bst (bst (bst b_34 0 u7) 0 u11) 0 u15).1 4, (bst (bst (bst b_34 0 u7) 0 u11) 0 u15).2 0) v2_34 7 (pX9_at 17 6 102 t_34 v3_34 4)) ∧ (lt (pX9_put 8 9 72 ((bst (bst (bst b_34 0 u7) 0 u11) 0 u15).1 4, (bst (bst (bst b_34 0 u7) 0 u11) 0 u15).2 0) v2_34 7 (pX9_at 17 6 102 t_34 v3_34 4)) fun (u19 : TS) => (kX9_at 17 6 102 t_34 v3_34 5) ∧ (kX9_put 8 9 72 ((bst (bst (bst (bst b_34 0 u7) 0 u11) 0 u15) 0 u19).1 4, (bst (bst (bst (bst b_34 0 u7) 0 u11) 0 u15) 0 u19).2 0) v2_34 8 (pX9_at 17 6 102 t_34 v3_34 5)))))))))
noncomputable def pX6_write (t : TS) (b : BS) (a2 : Int32) (a3 : Int32) (a4 : Int32) : TS × BS := lt ((pX9_at 8 9 72 (b.1 4, b.2 0) a2 2) - (pX9_at 8 9 72 (b.1 4, b.2 0) a2 3)) fun (x3 : Int32) => if a3 = (-1000000000) then (pX6_write_L34 a2 a3 a2 4 (-1000000000) t b) else (pX6_write_L34 a2 a3 a2 4 (a4 + x3) t b)
def kX6_write (t : TS) (b : BS) (a2 : Int32) (a3 : Int32) (a4 : Int32) : Prop := (kX9_at 8 9 72 (b.1 4, b.2 0) a2 2) ∧ ((kX9_at 8 9 72 (b.1 4, b.2 0) a2 3) ∧ (lt ((pX9_at 8 9 72 (b.1 4, b.2 0) a2 2) - (pX9_at 8 9 72 (b.1 4, b.2 0) a2 3)) fun (x3 : Int32) => if a3 = (-1000000000) then (kX6_write_L34 a2 a3 a2 4 (-1000000000) t b) else (kX6_write_L34 a2 a3 a2 4 (a4 + x3) t b)))
abbrev rX6_write : Room := { frames := 1, cells := 0, slots := 0, locals := 23 }
set_option maxHeartbeats 4000000 in
set_option maxRecDepth 100000 in
theorem mX6_write (l : Launch) (dC : Nat → ClassId) (dI : Nat → Nat → Nat) (cI cB cO cL : ClassId) (qe : Nat → Nat) (qb : Nat → Nat) (t : TS) (b : BS) (a2 : Int32) (a3 : Int32) (a4 : Int32) (hI : gD (fun _ => True) (eAd qe ++ bAd qb)) (hok : kX6_write t b a2 a3 a4) : Met l yX6_write wsX6_write rX6_write (cP (dC, dI) (tYS cI cB cO cL) (ew qe cI t ++ bw qb cI b) [.ref (qe 0), .ref (qb 1), .int a2, .int a3, .int a4]) (gQv (dC, dI) (fun z9 : TS × BS => ew qe cI z9.1 ++ bw qb cI z9.2) (wA (ew qe cI t ++ bw qb cI b)) (pX6_write t b a2 a3 a4)) 0 0 (wA (ew qe cI t ++ bw qb cI b)) := by
  refine cMet (cc := cX6_write) (maxL := 6) (ret := none) [(0, .ref (qe 0)), (1, .ref (qb 1)), (2, .int a2), (3, .int a3), (4, .int a4)] (by decide) rfl rfl rfl ?_
  intro p e s mi below meth c C0 hK hE hP ls hl
  obtain ⟨hx, hb, hr, hml, hown, hts, hlocks⟩ := id C0
  have hown : s.vm.findClass RX6 = some mi.cls := hown
  have hS : va_S (wA (ew qe cI t ++ bw qb cI b)) s.heap s.heap [] := va_S.rf
  have hD : gD (wA (ew qe cI t ++ bw qb cI b)) (eAd qe ++ bAd qb) := gD_wA (ws := ew qe cI t ++ bw qb cI b) hI
  have hP : va_P (dC, dI) vwCl (ew qe cI t ++ bw qb cI b) s.heap := hP
  obtain ⟨F, hF⟩ : ∃ F, F = pX6_write t b a2 a3 a4 := ⟨_, rfl⟩
  have hf := hF
  have hin6 : ∀ w ∈ u_ws RX6 TX6 1, w ∈ wsX6_write := by decide +kernel
  have hin1 : ∀ w ∈ u_ws RX1 TX1 1, w ∈ wsX6_write := by decide +kernel
  have cn61 := hts (.constant RX6 61 (-1000000000)) (by decide +kernel)
  have fl12 := hts (.fieldLink RX6 12 "ClickBench$Ear" "coming" "LClickBench$Arrivals;") (by decide +kernel)
  have fl62 := hts (.fieldLink RX6 62 "ClickBench$Arrivals" "list" "LClickBench$Table;") (by decide +kernel)
  have J_34 : ∀ (v2_34 : Int32) (v3_34 : Int32) (t1_34 : Int32) (t2_34 : Int32) (t3_34 : Int32) (t_34 : TS) (b_34 : BS) (H : Heap) (locs : List Loc), va_P (dC, dI) vwCl (ew qe cI t_34 ++ bw qb cI b_34) H → va_S (wA (ew qe cI t ++ bw qb cI b)) s.heap H locs → ∀ ls : Array Slot, lv_has ls 6 [(0, .ref (qe 0)), (1, .ref (qb 1)), (2, .int v2_34), (3, .int v3_34)] → F = pX6_write_L34 v2_34 v3_34 t1_34 t2_34 t3_34 t_34 b_34 → kX6_write_L34 v2_34 v3_34 t1_34 t2_34 t3_34 t_34 b_34 → W p l e rX6_write s mi ([.ref (qe 0), .ref (qb 1), .int a2, .int a3, .int a4] : List Value).toArray below meth c H locs 0 0 (MQ below (gQv (dC, dI) (fun z9 : TS × BS => ew qe cI z9.1 ++ bw qb cI z9.2) (wA (ew qe cI t ++ bw qb cI b)) (pX6_write t b a2 a3 a4)) ([.ref (qe 0), .ref (qb 1), .int a2, .int a3, .int a4] : List Value).toArray s 0 0 (wA (ew qe cI t ++ bw qb cI b))) (F0 mi 34 ls [.int t3_34, .int t2_34, .int t1_34, .ref (qb 1)]) := by
    intro v2_34 v3_34 t1_34 t2_34 t3_34 t_34 b_34 H locs hP hS ls hl hf hok
    obtain ⟨h5, hok⟩ := hok
    have hPc := hP.sub (ws' := tw (tad (qb 1) (qb 2)) cI 8 9 72 (b_34.1 4, b_34.2 0)) [5, 6] rfl
    refine gmu_v (va_runV (As := [.int t1_34, .int t2_34, .int t3_34]) (rest := []) ⟨hx, hb, hml, hown, hts⟩ (mX9_put l dC dI cI cB cO cL (tad (qb 1) (qb 2)) 8 9 72 (b_34.1 4, b_34.2 0) t1_34 t2_34 t3_34 (gD_subT hD [5, 6] rfl rfl) h5) (cwV 3 hts gX6_write_X9_put rfl rfl rfl (by decide +kernel) ⟨Nat.le_of_ble_eq_true rfl, Nat.le_of_ble_eq_true rfl⟩) ⟨cP_blind, va_recv hK hPc (ci := 6) (q0 := 0) rfl rfl, cP_ok hPc hK hE⟩ rfl rfl hl.1 rfl (lv_room (Nat.le_of_ble_eq_true rfl)) dX6_write_34 ⟨Nat.zero_le _, Nat.zero_le _⟩) hP (gD_va hD rfl) hS [5, 6] rfl (fun _ => rfl) (fun u7 H locs hw hP hS => ?_)
    have hP : va_P (dC, dI) vwCl (ew qe cI t_34 ++ bw qb cI (bst b_34 0 u7)) H := hP
    have hf := lt_eq hw hf
    have hok := lt_ok hw hok
    refine lv_aload_n hx hb dX6_write_37 rfl (lv_at hl 1 rfl) ?_
    refine lv_iload_n hx hb dX6_write_38 rfl (lv_at hl 2 rfl) ?_
    refine lv_iconst (v := 5) hx hb dX6_write_39 (by decide) ?_
    refine lv_aload_n hx hb dX6_write_40 rfl (lv_at hl 0 rfl) ?_
    refine va_get (D := (dC, dI)) (ci := 4) (v := .ref (qe 1)) (C := RX6) (T := TX6) (N := 1) hx hb hts hin6 hown hK hP 0 rfl rfl 0 (by decide) fl12 (fun _ h9 => h9) rfl dX6_write_41 ?_
    refine va_get (D := (dC, dI)) (ci := 0) (v := .ref (qe 2)) (C := RX1) (T := TX1) (N := 1) hx hb hts hin1 hown hK hP 1 rfl rfl 0 (by decide) fl62 (fun _ h9 => h9) rfl dX6_write_44 ?_
    refine lv_iload_n hx hb dX6_write_47 rfl (lv_at hl 3 rfl) ?_
    refine lv_iconst (v := 0) hx hb dX6_write_48 (by decide) ?_
    obtain ⟨h8, hok⟩ := hok
    have hPc := hP.sub (ws' := tw (tad (qe 2) (qe 3)) cI 17 6 102 t_34) [2, 3] rfl
    refine gro_i (va_runV (As := [.int v3_34, .int 0]) (rest := [.int 5, .int v2_34, .ref (qb 1)]) ⟨hx, hb, hml, hown, hts⟩ (mX9_at l dC dI cI cB cO cL (tad (qe 2) (qe 3)) 17 6 102 t_34 v3_34 0  h8) (cwV 2 hts gX6_write_X9_at rfl rfl rfl (by decide +kernel) ⟨Nat.le_of_ble_eq_true rfl, Nat.le_of_ble_eq_true rfl⟩) ⟨cP_blind, va_recv hK hPc (ci := 6) (q0 := 0) rfl rfl, cP_ok hPc hK hE⟩ rfl rfl hl.1 rfl (lv_room (Nat.le_of_ble_eq_true rfl)) dX6_write_49 ⟨Nat.zero_le _, Nat.zero_le _⟩) ?_
    obtain ⟨h9, hok⟩ := hok
    have hPc := hP.sub (ws' := tw (tad (qb 1) (qb 2)) cI 8 9 72 ((bst b_34 0 u7).1 4, (bst b_34 0 u7).2 0)) [5, 6] rfl
    refine gmu_v (va_runV (As := [.int v2_34, .int 5, .int (pX9_at 17 6 102 t_34 v3_34 0)]) (rest := []) ⟨hx, hb, hml, hown, hts⟩ (mX9_put l dC dI cI cB cO cL (tad (qb 1) (qb 2)) 8 9 72 ((bst b_34 0 u7).1 4, (bst b_34 0 u7).2 0) v2_34 5 (pX9_at 17 6 102 t_34 v3_34 0) (gD_subT hD [5, 6] rfl rfl) h9) (cwV 3 hts gX6_write_X9_put rfl rfl rfl (by decide +kernel) ⟨Nat.le_of_ble_eq_true rfl, Nat.le_of_ble_eq_true rfl⟩) ⟨cP_blind, va_recv hK hPc (ci := 6) (q0 := 0) rfl rfl, cP_ok hPc hK hE⟩ rfl rfl hl.1 rfl (lv_room (Nat.le_of_ble_eq_true rfl)) dX6_write_52 ⟨Nat.zero_le _, Nat.zero_le _⟩) hP (gD_va hD rfl) hS [5, 6] rfl (fun _ => rfl) (fun u11 H locs hw hP hS => ?_)
    have hP : va_P (dC, dI) vwCl (ew qe cI t_34 ++ bw qb cI (bst (bst b_34 0 u7) 0 u11)) H := hP
    have hf := lt_eq hw hf
    have hok := lt_ok hw hok
    refine lv_aload_n hx hb dX6_write_55 rfl (lv_at hl 1 rfl) ?_
    refine lv_iload_n hx hb dX6_write_56 rfl (lv_at hl 2 rfl) ?_
    refine lv_bipush (v := 6) hx hb dX6_write_57 (by decide) ?_
    refine lv_aload_n hx hb dX6_write_59 rfl (lv_at hl 0 rfl) ?_
    refine va_get (D := (dC, dI)) (ci := 4) (v := .ref (qe 1)) (C := RX6) (T := TX6) (N := 1) hx hb hts hin6 hown hK hP 0 rfl rfl 0 (by decide) fl12 (fun _ h9 => h9) rfl dX6_write_60 ?_
    refine va_get (D := (dC, dI)) (ci := 0) (v := .ref (qe 2)) (C := RX1) (T := TX1) (N := 1) hx hb hts hin1 hown hK hP 1 rfl rfl 0 (by decide) fl62 (fun _ h9 => h9) rfl dX6_write_63 ?_
    refine lv_iload_n hx hb dX6_write_66 rfl (lv_at hl 3 rfl) ?_
    refine lv_iconst (v := 3) hx hb dX6_write_67 (by decide) ?_
    obtain ⟨h12, hok⟩ := hok
    have hPc := hP.sub (ws' := tw (tad (qe 2) (qe 3)) cI 17 6 102 t_34) [2, 3] rfl
    refine gro_i (va_runV (As := [.int v3_34, .int 3]) (rest := [.int 6, .int v2_34, .ref (qb 1)]) ⟨hx, hb, hml, hown, hts⟩ (mX9_at l dC dI cI cB cO cL (tad (qe 2) (qe 3)) 17 6 102 t_34 v3_34 3  h12) (cwV 2 hts gX6_write_X9_at rfl rfl rfl (by decide +kernel) ⟨Nat.le_of_ble_eq_true rfl, Nat.le_of_ble_eq_true rfl⟩) ⟨cP_blind, va_recv hK hPc (ci := 6) (q0 := 0) rfl rfl, cP_ok hPc hK hE⟩ rfl rfl hl.1 rfl (lv_room (Nat.le_of_ble_eq_true rfl)) dX6_write_68 ⟨Nat.zero_le _, Nat.zero_le _⟩) ?_
    obtain ⟨h13, hok⟩ := hok
    have hPc := hP.sub (ws' := tw (tad (qb 1) (qb 2)) cI 8 9 72 ((bst (bst b_34 0 u7) 0 u11).1 4, (bst (bst b_34 0 u7) 0 u11).2 0)) [5, 6] rfl
    refine gmu_v (va_runV (As := [.int v2_34, .int 6, .int (pX9_at 17 6 102 t_34 v3_34 3)]) (rest := []) ⟨hx, hb, hml, hown, hts⟩ (mX9_put l dC dI cI cB cO cL (tad (qb 1) (qb 2)) 8 9 72 ((bst (bst b_34 0 u7) 0 u11).1 4, (bst (bst b_34 0 u7) 0 u11).2 0) v2_34 6 (pX9_at 17 6 102 t_34 v3_34 3) (gD_subT hD [5, 6] rfl rfl) h13) (cwV 3 hts gX6_write_X9_put rfl rfl rfl (by decide +kernel) ⟨Nat.le_of_ble_eq_true rfl, Nat.le_of_ble_eq_true rfl⟩) ⟨cP_blind, va_recv hK hPc (ci := 6) (q0 := 0) rfl rfl, cP_ok hPc hK hE⟩ rfl rfl hl.1 rfl (lv_room (Nat.le_of_ble_eq_true rfl)) dX6_write_71 ⟨Nat.zero_le _, Nat.zero_le _⟩) hP (gD_va hD rfl) hS [5, 6] rfl (fun _ => rfl) (fun u15 H locs hw hP hS => ?_)
    have hP : va_P (dC, dI) vwCl (ew qe cI t_34 ++ bw qb cI (bst (bst (bst b_34 0 u7) 0 u11) 0 u15)) H := hP
    have hf := lt_eq hw hf
    have hok := lt_ok hw hok
    refine lv_aload_n hx hb dX6_write_74 rfl (lv_at hl 1 rfl) ?_
    refine lv_iload_n hx hb dX6_write_75 rfl (lv_at hl 2 rfl) ?_
    refine lv_bipush (v := 7) hx hb dX6_write_76 (by decide) ?_
    refine lv_aload_n hx hb dX6_write_78 rfl (lv_at hl 0 rfl) ?_
    refine va_get (D := (dC, dI)) (ci := 4) (v := .ref (qe 1)) (C := RX6) (T := TX6) (N := 1) hx hb hts hin6 hown hK hP 0 rfl rfl 0 (by decide) fl12 (fun _ h9 => h9) rfl dX6_write_79 ?_
    refine va_get (D := (dC, dI)) (ci := 0) (v := .ref (qe 2)) (C := RX1) (T := TX1) (N := 1) hx hb hts hin1 hown hK hP 1 rfl rfl 0 (by decide) fl62 (fun _ h9 => h9) rfl dX6_write_82 ?_
    refine lv_iload_n hx hb dX6_write_85 rfl (lv_at hl 3 rfl) ?_
    refine lv_iconst (v := 4) hx hb dX6_write_86 (by decide) ?_
    obtain ⟨h16, hok⟩ := hok
    have hPc := hP.sub (ws' := tw (tad (qe 2) (qe 3)) cI 17 6 102 t_34) [2, 3] rfl
    refine gro_i (va_runV (As := [.int v3_34, .int 4]) (rest := [.int 7, .int v2_34, .ref (qb 1)]) ⟨hx, hb, hml, hown, hts⟩ (mX9_at l dC dI cI cB cO cL (tad (qe 2) (qe 3)) 17 6 102 t_34 v3_34 4  h16) (cwV 2 hts gX6_write_X9_at rfl rfl rfl (by decide +kernel) ⟨Nat.le_of_ble_eq_true rfl, Nat.le_of_ble_eq_true rfl⟩) ⟨cP_blind, va_recv hK hPc (ci := 6) (q0 := 0) rfl rfl, cP_ok hPc hK hE⟩ rfl rfl hl.1 rfl (lv_room (Nat.le_of_ble_eq_true rfl)) dX6_write_87 ⟨Nat.zero_le _, Nat.zero_le _⟩) ?_
    obtain ⟨h17, hok⟩ := hok
    have hPc := hP.sub (ws' := tw (tad (qb 1) (qb 2)) cI 8 9 72 ((bst (bst (bst b_34 0 u7) 0 u11) 0 u15).1 4, (bst (bst (bst b_34 0 u7) 0 u11) 0 u15).2 0)) [5, 6] rfl
    refine gmu_v (va_runV (As := [.int v2_34, .int 7, .int (pX9_at 17 6 102 t_34 v3_34 4)]) (rest := []) ⟨hx, hb, hml, hown, hts⟩ (mX9_put l dC dI cI cB cO cL (tad (qb 1) (qb 2)) 8 9 72 ((bst (bst (bst b_34 0 u7) 0 u11) 0 u15).1 4, (bst (bst (bst b_34 0 u7) 0 u11) 0 u15).2 0) v2_34 7 (pX9_at 17 6 102 t_34 v3_34 4) (gD_subT hD [5, 6] rfl rfl) h17) (cwV 3 hts gX6_write_X9_put rfl rfl rfl (by decide +kernel) ⟨Nat.le_of_ble_eq_true rfl, Nat.le_of_ble_eq_true rfl⟩) ⟨cP_blind, va_recv hK hPc (ci := 6) (q0 := 0) rfl rfl, cP_ok hPc hK hE⟩ rfl rfl hl.1 rfl (lv_room (Nat.le_of_ble_eq_true rfl)) dX6_write_90 ⟨Nat.zero_le _, Nat.zero_le _⟩) hP (gD_va hD rfl) hS [5, 6] rfl (fun _ => rfl) (fun u19 H locs hw hP hS => ?_)
    have hP : va_P (dC, dI) vwCl (ew qe cI t_34 ++ bw qb cI (bst (bst (bst (bst b_34 0 u7) 0 u11) 0 u15) 0 u19)) H := hP
    have hf := lt_eq hw hf
    have hok := lt_ok hw hok
    refine lv_aload_n hx hb dX6_write_93 rfl (lv_at hl 1 rfl) ?_
    refine lv_iload_n hx hb dX6_write_94 rfl (lv_at hl 2 rfl) ?_
    refine lv_bipush (v := 8) hx hb dX6_write_95 (by decide) ?_
    refine lv_aload_n hx hb dX6_write_97 rfl (lv_at hl 0 rfl) ?_
    refine va_get (D := (dC, dI)) (ci := 4) (v := .ref (qe 1)) (C := RX6) (T := TX6) (N := 1) hx hb hts hin6 hown hK hP 0 rfl rfl 0 (by decide) fl12 (fun _ h9 => h9) rfl dX6_write_98 ?_
    refine va_get (D := (dC, dI)) (ci := 0) (v := .ref (qe 2)) (C := RX1) (T := TX1) (N := 1) hx hb hts hin1 hown hK hP 1 rfl rfl 0 (by decide) fl62 (fun _ h9 => h9) rfl dX6_write_101 ?_
    refine lv_iload_n hx hb dX6_write_104 rfl (lv_at hl 3 rfl) ?_
    refine lv_iconst (v := 5) hx hb dX6_write_105 (by decide) ?_
    obtain ⟨h20, hok⟩ := hok
    have hPc := hP.sub (ws' := tw (tad (qe 2) (qe 3)) cI 17 6 102 t_34) [2, 3] rfl
    refine gro_i (va_runV (As := [.int v3_34, .int 5]) (rest := [.int 8, .int v2_34, .ref (qb 1)]) ⟨hx, hb, hml, hown, hts⟩ (mX9_at l dC dI cI cB cO cL (tad (qe 2) (qe 3)) 17 6 102 t_34 v3_34 5  h20) (cwV 2 hts gX6_write_X9_at rfl rfl rfl (by decide +kernel) ⟨Nat.le_of_ble_eq_true rfl, Nat.le_of_ble_eq_true rfl⟩) ⟨cP_blind, va_recv hK hPc (ci := 6) (q0 := 0) rfl rfl, cP_ok hPc hK hE⟩ rfl rfl hl.1 rfl (lv_room (Nat.le_of_ble_eq_true rfl)) dX6_write_106 ⟨Nat.zero_le _, Nat.zero_le _⟩) ?_
    have h21 : kX9_put 8 9 72 ((bst (bst (bst (bst b_34 0 u7) 0 u11) 0 u15) 0 u19).1 4, (bst (bst (bst (bst b_34 0 u7) 0 u11) 0 u15) 0 u19).2 0) v2_34 8 (pX9_at 17 6 102 t_34 v3_34 5) := hok
    have hPc := hP.sub (ws' := tw (tad (qb 1) (qb 2)) cI 8 9 72 ((bst (bst (bst (bst b_34 0 u7) 0 u11) 0 u15) 0 u19).1 4, (bst (bst (bst (bst b_34 0 u7) 0 u11) 0 u15) 0 u19).2 0)) [5, 6] rfl
    refine gmu_v (va_runV (As := [.int v2_34, .int 8, .int (pX9_at 17 6 102 t_34 v3_34 5)]) (rest := []) ⟨hx, hb, hml, hown, hts⟩ (mX9_put l dC dI cI cB cO cL (tad (qb 1) (qb 2)) 8 9 72 ((bst (bst (bst (bst b_34 0 u7) 0 u11) 0 u15) 0 u19).1 4, (bst (bst (bst (bst b_34 0 u7) 0 u11) 0 u15) 0 u19).2 0) v2_34 8 (pX9_at 17 6 102 t_34 v3_34 5) (gD_subT hD [5, 6] rfl rfl) h21) (cwV 3 hts gX6_write_X9_put rfl rfl rfl (by decide +kernel) ⟨Nat.le_of_ble_eq_true rfl, Nat.le_of_ble_eq_true rfl⟩) ⟨cP_blind, va_recv hK hPc (ci := 6) (q0 := 0) rfl rfl, cP_ok hPc hK hE⟩ rfl rfl hl.1 rfl (lv_room (Nat.le_of_ble_eq_true rfl)) dX6_write_109 ⟨Nat.zero_le _, Nat.zero_le _⟩) hP (gD_va hD rfl) hS [5, 6] rfl (fun _ => rfl) (fun u23 H locs hw hP hS => ?_)
    have hP : va_P (dC, dI) vwCl (ew qe cI t_34 ++ bw qb cI (bst (bst (bst (bst (bst b_34 0 u7) 0 u11) 0 u15) 0 u19) 0 u23)) H := hP
    have hf := lt_eq hw hf
    exact e_mv C0 (hf.symm.trans hF) hP hS dX6_write_112
  refine lv_aload_n hx hb dX6_write_0 rfl (lv_at hl 1 rfl) ?_
  refine lv_iload_n hx hb dX6_write_1 rfl (lv_at hl 2 rfl) ?_
  refine lv_iconst (v := 2) hx hb dX6_write_2 (by decide) ?_
  obtain ⟨h1, hok⟩ := hok
  have hPc := hP.sub (ws' := tw (tad (qb 1) (qb 2)) cI 8 9 72 (b.1 4, b.2 0)) [5, 6] rfl
  refine gro_i (va_runV (As := [.int a2, .int 2]) (rest := []) ⟨hx, hb, hml, hown, hts⟩ (mX9_at l dC dI cI cB cO cL (tad (qb 1) (qb 2)) 8 9 72 (b.1 4, b.2 0) a2 2  h1) (cwV 2 hts gX6_write_X9_at rfl rfl rfl (by decide +kernel) ⟨Nat.le_of_ble_eq_true rfl, Nat.le_of_ble_eq_true rfl⟩) ⟨cP_blind, va_recv hK hPc (ci := 6) (q0 := 0) rfl rfl, cP_ok hPc hK hE⟩ rfl rfl hl.1 rfl (lv_room (Nat.le_of_ble_eq_true rfl)) dX6_write_3 ⟨Nat.zero_le _, Nat.zero_le _⟩) ?_
  refine lv_aload_n hx hb dX6_write_6 rfl (lv_at hl 1 rfl) ?_
  refine lv_iload_n hx hb dX6_write_7 rfl (lv_at hl 2 rfl) ?_
  refine lv_iconst (v := 3) hx hb dX6_write_8 (by decide) ?_
  obtain ⟨h2, hok⟩ := hok
  have hPc := hP.sub (ws' := tw (tad (qb 1) (qb 2)) cI 8 9 72 (b.1 4, b.2 0)) [5, 6] rfl
  refine gro_i (va_runV (As := [.int a2, .int 3]) (rest := [.int (pX9_at 8 9 72 (b.1 4, b.2 0) a2 2)]) ⟨hx, hb, hml, hown, hts⟩ (mX9_at l dC dI cI cB cO cL (tad (qb 1) (qb 2)) 8 9 72 (b.1 4, b.2 0) a2 3  h2) (cwV 2 hts gX6_write_X9_at rfl rfl rfl (by decide +kernel) ⟨Nat.le_of_ble_eq_true rfl, Nat.le_of_ble_eq_true rfl⟩) ⟨cP_blind, va_recv hK hPc (ci := 6) (q0 := 0) rfl rfl, cP_ok hPc hK hE⟩ rfl rfl hl.1 rfl (lv_room (Nat.le_of_ble_eq_true rfl)) dX6_write_9 ⟨Nat.zero_le _, Nat.zero_le _⟩) ?_
  refine lv_isub hx hb dX6_write_12 ?_
  refine lv_topi (fun x3 ex3 => ?_)
  have hf := lt_eq ex3 hf
  have hok := lt_ok ex3 hok
  refine lv_istore (lv' := [(5, .int x3), (0, .ref (qe 0)), (1, .ref (qb 1)), (2, .int a2), (3, .int a3), (4, .int a4)]) hx hb dX6_write_13 hl (by decide) rfl (fun ls hl => ?_)
  refine lv_aload_n hx hb dX6_write_15 rfl (lv_at hl 2 rfl) ?_
  refine lv_iload_n hx hb dX6_write_16 rfl (lv_at hl 3 rfl) ?_
  refine lv_iconst (v := 4) hx hb dX6_write_17 (by decide) ?_
  refine lv_iload_n hx hb dX6_write_18 rfl (lv_at hl 4 rfl) ?_
  refine lv_ldc (v := (-1000000000)) hx hb hown cn61 dX6_write_19 ?_
  refine lv_icmp_ne (tgt := 29) hx hb dX6_write_21 (by decide) (fun c4 => ?_) (fun c4 => ?_)
  · have hf := ie_eq c4 hf
    have hok := ie_ok c4 hok
    refine lv_iload hx hb dX6_write_29 (lv_at hl 5 rfl) ?_
    refine lv_iload hx hb dX6_write_31 (lv_at hl 0 rfl) ?_
    refine lv_iadd hx hb dX6_write_33 ?_
    exact J_34 a2 a3 a2 4 (a4 + x3) t b _ _ hP hS _ (lv_sub hl [1, 2, 3, 4] rfl) hf hok
  · have hf := it_eq c4 hf
    have hok := it_ok c4 hok
    refine lv_ldc (v := (-1000000000)) hx hb hown cn61 dX6_write_24 ?_
    refine lv_goto (tgt := 34) hx hb dX6_write_26 (by decide) ?_
    exact J_34 a2 a3 a2 4 (-1000000000) t b _ _ hP hS _ (lv_sub hl [1, 2, 3, 4] rfl) hf hok
noncomputable def pX6_isPreferred (t : TS) (b : BS) (a2 : Int32) (a3 : Int32) (a4 : Int32) (a5 : Int32) : Bool := if (pX2_setting b 5) = 0 then (if a5 ≤ a3 then (false) else (true)) else (if (pX9_at 17 6 102 t a2 3) ≤ (pX9_at 17 6 102 t a4 3) then (false) else (true))
def kX6_isPreferred (t : TS) (b : BS) (a2 : Int32) (a3 : Int32) (a4 : Int32) (a5 : Int32) : Prop := (kX2_setting b 5) ∧ (if (pX2_setting b 5) = 0 then (True) else ((kX9_at 17 6 102 t a2 3) ∧ (kX9_at 17 6 102 t a4 3)))
abbrev rX6_isPreferred : Room := { frames := 2, cells := 0, slots := 0, locals := 43 }
set_option maxHeartbeats 4000000 in
set_option maxRecDepth 100000 in
theorem mX6_isPreferred (l : Launch) (dC : Nat → ClassId) (dI : Nat → Nat → Nat) (cI cB cO cL : ClassId) (qe : Nat → Nat) (qb : Nat → Nat) (t : TS) (b : BS) (a2 : Int32) (a3 : Int32) (a4 : Int32) (a5 : Int32) (hok : kX6_isPreferred t b a2 a3 a4 a5) : Met l yX6_isPreferred wsX6_isPreferred rX6_isPreferred (cP (dC, dI) (tYS cI cB cO cL) (ew qe cI t ++ bw qb cI b) [.ref (qe 0), .ref (qb 0), .int a2, .int a3, .int a4, .int a5]) (gRz (pX6_isPreferred t b a2 a3 a4 a5)) 0 0 (fun _ => False) := by
  refine cMet (cc := cX6_isPreferred) (maxL := 6) (ret := some .boolean) [(0, .ref (qe 0)), (1, .ref (qb 0)), (2, .int a2), (3, .int a3), (4, .int a4), (5, .int a5)] (by decide) rfl rfl rfl ?_
  intro p e s mi below meth c C0 hK hE hP ls hl
  obtain ⟨hx, hb, hr, hml, hown, hts, hlocks⟩ := id C0
  have hown : s.vm.findClass RX6 = some mi.cls := hown
  obtain ⟨F, hF⟩ : ∃ F, F = pX6_isPreferred t b a2 a3 a4 a5 := ⟨_, rfl⟩
  have hf := hF
  have hin6 : ∀ w ∈ u_ws RX6 TX6 1, w ∈ wsX6_isPreferred := by decide +kernel
  have hin1 : ∀ w ∈ u_ws RX1 TX1 1, w ∈ wsX6_isPreferred := by decide +kernel
  have fl12 := hts (.fieldLink RX6 12 "ClickBench$Ear" "coming" "LClickBench$Arrivals;") (by decide +kernel)
  have fl62 := hts (.fieldLink RX6 62 "ClickBench$Arrivals" "list" "LClickBench$Table;") (by decide +kernel)
  refine lv_aload_n hx hb dX6_isPreferred_0 rfl (lv_at hl 1 rfl) ?_
  refine lv_iconst (v := 5) hx hb dX6_isPreferred_1 (by decide) ?_
  obtain ⟨h1, hok⟩ := hok
  have hPc := hP.sub (ws' := bw qb cI b) [4, 5, 6, 7, 8, 9, 10, 11, 12] rfl
  refine gro_i (va_runV (As := [.int 5]) (rest := []) ⟨hx, hb, hml, hown, hts⟩ (mX2_setting l dC dI cI cB cO cL qb b 5  h1) (cwV 1 hts gX6_isPreferred_X2_setting rfl rfl rfl (by decide +kernel) ⟨Nat.le_of_ble_eq_true rfl, Nat.le_of_ble_eq_true rfl⟩) ⟨cP_blind, va_recv hK hPc (ci := 1) (q0 := 0) rfl rfl, cP_ok hPc hK hE⟩ rfl rfl hl.1 rfl (lv_room (Nat.le_of_ble_eq_true rfl)) dX6_isPreferred_2 ⟨Nat.zero_le _, Nat.zero_le _⟩) ?_
  refine lv_if_ne (tgt := 20) hx hb dX6_isPreferred_5 (by decide) (fun c2 => ?_) (fun c2 => ?_)
  · have hf := ie_eq c2 hf
    have hok := ie_ok c2 hok
    refine lv_aload_n hx hb dX6_isPreferred_20 rfl (lv_at hl 0 rfl) ?_
    refine va_get (D := (dC, dI)) (ci := 4) (v := .ref (qe 1)) (C := RX6) (T := TX6) (N := 1) hx hb hts hin6 hown hK hP 0 rfl rfl 0 (by decide) fl12 (fun _ h9 => h9) rfl dX6_isPreferred_21 ?_
    refine va_get (D := (dC, dI)) (ci := 0) (v := .ref (qe 2)) (C := RX1) (T := TX1) (N := 1) hx hb hts hin1 hown hK hP 1 rfl rfl 0 (by decide) fl62 (fun _ h9 => h9) rfl dX6_isPreferred_24 ?_
    refine lv_iload_n hx hb dX6_isPreferred_27 rfl (lv_at hl 2 rfl) ?_
    refine lv_iconst (v := 3) hx hb dX6_isPreferred_28 (by decide) ?_
    obtain ⟨h3, hok⟩ := hok
    have hPc := hP.sub (ws' := tw (tad (qe 2) (qe 3)) cI 17 6 102 t) [2, 3] rfl
    refine gro_i (va_runV (As := [.int a2, .int 3]) (rest := []) ⟨hx, hb, hml, hown, hts⟩ (mX9_at l dC dI cI cB cO cL (tad (qe 2) (qe 3)) 17 6 102 t a2 3  h3) (cwV 2 hts gX6_isPreferred_X9_at rfl rfl rfl (by decide +kernel) ⟨Nat.le_of_ble_eq_true rfl, Nat.le_of_ble_eq_true rfl⟩) ⟨cP_blind, va_recv hK hPc (ci := 6) (q0 := 0) rfl rfl, cP_ok hPc hK hE⟩ rfl rfl hl.1 rfl (lv_room (Nat.le_of_ble_eq_true rfl)) dX6_isPreferred_29 ⟨Nat.zero_le _, Nat.zero_le _⟩) ?_
    refine lv_aload_n hx hb dX6_isPreferred_32 rfl (lv_at hl 0 rfl) ?_
    refine va_get (D := (dC, dI)) (ci := 4) (v := .ref (qe 1)) (C := RX6) (T := TX6) (N := 1) hx hb hts hin6 hown hK hP 0 rfl rfl 0 (by decide) fl12 (fun _ h9 => h9) rfl dX6_isPreferred_33 ?_
    refine va_get (D := (dC, dI)) (ci := 0) (v := .ref (qe 2)) (C := RX1) (T := TX1) (N := 1) hx hb hts hin1 hown hK hP 1 rfl rfl 0 (by decide) fl62 (fun _ h9 => h9) rfl dX6_isPreferred_36 ?_
    refine lv_iload hx hb dX6_isPreferred_39 (lv_at hl 4 rfl) ?_
    refine lv_iconst (v := 3) hx hb dX6_isPreferred_41 (by decide) ?_
    have h4 : kX9_at 17 6 102 t a4 3 := hok
    have hPc := hP.sub (ws' := tw (tad (qe 2) (qe 3)) cI 17 6 102 t) [2, 3] rfl
    refine gro_i (va_runV (As := [.int a4, .int 3]) (rest := [.int (pX9_at 17 6 102 t a2 3)]) ⟨hx, hb, hml, hown, hts⟩ (mX9_at l dC dI cI cB cO cL (tad (qe 2) (qe 3)) 17 6 102 t a4 3  h4) (cwV 2 hts gX6_isPreferred_X9_at rfl rfl rfl (by decide +kernel) ⟨Nat.le_of_ble_eq_true rfl, Nat.le_of_ble_eq_true rfl⟩) ⟨cP_blind, va_recv hK hPc (ci := 6) (q0 := 0) rfl rfl, cP_ok hPc hK hE⟩ rfl rfl hl.1 rfl (lv_room (Nat.le_of_ble_eq_true rfl)) dX6_isPreferred_42 ⟨Nat.zero_le _, Nat.zero_le _⟩) ?_
    refine lv_icmp_le (tgt := 52) hx hb dX6_isPreferred_45 (by decide) (fun c5 => ?_) (fun c5 => ?_)
    · have hf := it_eq c5 hf
      refine lv_iconst (v := 0) hx hb dX6_isPreferred_52 (by decide) ?_
      exact e_rz C0 (b := false) rfl (hf.symm.trans hF) dX6_isPreferred_53
    · have hf := ie_eq c5 hf
      refine lv_iconst (v := 1) hx hb dX6_isPreferred_48 (by decide) ?_
      refine lv_goto (tgt := 53) hx hb dX6_isPreferred_49 (by decide) ?_
      exact e_rz C0 (b := true) rfl (hf.symm.trans hF) dX6_isPreferred_53
  · have hf := it_eq c2 hf
    refine lv_iload_n hx hb dX6_isPreferred_8 rfl (lv_at hl 3 rfl) ?_
    refine lv_iload hx hb dX6_isPreferred_9 (lv_at hl 5 rfl) ?_
    refine lv_icmp_ge (tgt := 18) hx hb dX6_isPreferred_11 (by decide) (fun c6 => ?_) (fun c6 => ?_)
    · have hf := it_eq c6 hf
      refine lv_iconst (v := 0) hx hb dX6_isPreferred_18 (by decide) ?_
      exact e_rz C0 (b := false) rfl (hf.symm.trans hF) dX6_isPreferred_19
    · have hf := ie_eq c6 hf
      refine lv_iconst (v := 1) hx hb dX6_isPreferred_14 (by decide) ?_
      refine lv_goto (tgt := 19) hx hb dX6_isPreferred_15 (by decide) ?_
      exact e_rz C0 (b := true) rfl (hf.symm.trans hF) dX6_isPreferred_19
noncomputable def pX6_drawJitter (b : BS) : Int32 × BS := lt (pX2_setting b 3) fun (x2 : Int32) => if x2 ≤ 0 then ((0, b)) else (bd (pX2_draw b ((2 * x2) + 1)) fun (r5 : Int32) (u6 : BS) => (r5 - x2, u6))
def kX6_drawJitter (b : BS) : Prop := (kX2_setting b 3) ∧ (lt (pX2_setting b 3) fun (x2 : Int32) => if x2 ≤ 0 then (True) else (kX2_draw b ((2 * x2) + 1)))
abbrev rX6_drawJitter : Room := { frames := 2, cells := 0, slots := 0, locals := 43 }
set_option maxHeartbeats 4000000 in
set_option maxRecDepth 100000 in
theorem mX6_drawJitter (l : Launch) (dC : Nat → ClassId) (dI : Nat → Nat → Nat) (cI cB cO cL : ClassId) (qb : Nat → Nat) (b : BS) (hI : gD (fun _ => True) (bAd qb)) (hok : kX6_drawJitter b) : Met l yX6_drawJitter wsX6_drawJitter rX6_drawJitter (cP (dC, dI) (tYS cI cB cO cL) (bw qb cI b) [.ref (qb 0)]) (gQi (dC, dI) (fun z9 => bw qb cI z9) (wA (bw qb cI b)) (pX6_drawJitter b)) 0 0 (wA (bw qb cI b)) := by
  refine cMet (cc := cX6_drawJitter) (maxL := 2) (ret := some .int) [(0, .ref (qb 0))] (by decide) rfl rfl rfl ?_
  intro p e s mi below meth c C0 hK hE hP ls hl
  obtain ⟨hx, hb, hr, hml, hown, hts, hlocks⟩ := id C0
  have hown : s.vm.findClass RX6 = some mi.cls := hown
  have hS : va_S (wA (bw qb cI b)) s.heap s.heap [] := va_S.rf
  have hD : gD (wA (bw qb cI b)) (bAd qb) := gD_wA (ws := bw qb cI b) hI
  have hP : va_P (dC, dI) vwCl (bw qb cI b) s.heap := hP
  obtain ⟨F, hF⟩ : ∃ F, F = pX6_drawJitter b := ⟨_, rfl⟩
  have hf := hF
  refine lv_aload_n hx hb dX6_drawJitter_0 rfl (lv_at hl 0 rfl) ?_
  refine lv_iconst (v := 3) hx hb dX6_drawJitter_1 (by decide) ?_
  obtain ⟨h1, hok⟩ := hok
  refine gro_i (va_runV (As := [.int 3]) (rest := []) ⟨hx, hb, hml, hown, hts⟩ (mX2_setting l dC dI cI cB cO cL qb b 3  h1) (cwV 1 hts gX6_drawJitter_X2_setting rfl rfl rfl (by decide +kernel) ⟨Nat.le_of_ble_eq_true rfl, Nat.le_of_ble_eq_true rfl⟩) ⟨cP_blind, va_recv hK hP (ci := 1) (q0 := 0) rfl rfl, cP_ok hP hK hE⟩ rfl rfl hl.1 rfl (lv_room (Nat.le_of_ble_eq_true rfl)) dX6_drawJitter_2 ⟨Nat.zero_le _, Nat.zero_le _⟩) ?_
  refine lv_topi (fun x2 ex2 => ?_)
  have hf := lt_eq ex2 hf
  have hok := lt_ok ex2 hok
  refine lv_istore_n (lv' := [(1, .int x2), (0, .ref (qb 0))]) hx hb dX6_drawJitter_5 rfl hl (by decide) rfl (fun ls hl => ?_)
  refine lv_iload_n hx hb dX6_drawJitter_6 rfl (lv_at hl 0 rfl) ?_
  refine lv_if_le (tgt := 24) hx hb dX6_drawJitter_7 (by decide) (fun c3 => ?_) (fun c3 => ?_)
  · have hf := it_eq c3 hf
    refine lv_iconst (v := 0) hx hb dX6_drawJitter_24 (by decide) ?_
    exact e_mi C0 (hf.symm.trans hF) hP hS dX6_drawJitter_25
  · have hf := ie_eq c3 hf
    have hok := ie_ok c3 hok
    refine lv_aload_n hx hb dX6_drawJitter_10 rfl (lv_at hl 1 rfl) ?_
    refine lv_iconst (v := 2) hx hb dX6_drawJitter_11 (by decide) ?_
    refine lv_iload_n hx hb dX6_drawJitter_12 rfl (lv_at hl 0 rfl) ?_
    refine lv_imul hx hb dX6_drawJitter_13 ?_
    refine lv_iconst (v := 1) hx hb dX6_drawJitter_14 (by decide) ?_
    refine lv_iadd hx hb dX6_drawJitter_15 ?_
    have h4 : kX2_draw b ((2 * x2) + 1) := hok
    refine gms_i (va_runV (As := [.int ((2 * x2) + 1)]) (rest := []) ⟨hx, hb, hml, hown, hts⟩ (mX2_draw l dC dI cI cB cO cL qb b ((2 * x2) + 1) (gD_any hD) h4) (cwV 1 hts gX6_drawJitter_X2_draw rfl rfl rfl (by decide +kernel) ⟨Nat.le_of_ble_eq_true rfl, Nat.le_of_ble_eq_true rfl⟩) ⟨cP_blind, va_recv hK hP (ci := 1) (q0 := 0) rfl rfl, cP_ok hP hK hE⟩ rfl rfl hl.1 rfl (lv_room (Nat.le_of_ble_eq_true rfl)) dX6_drawJitter_16 ⟨Nat.zero_le _, Nat.zero_le _⟩) hP (gD_va hD rfl) hS (fun r5 u6 H locs hw hP hS => ?_)
    have hP : va_P (dC, dI) vwCl (bw qb cI u6) H := hP
    have hf := bd_eq hw hf
    refine lv_iload_n hx hb dX6_drawJitter_19 rfl (lv_at hl 0 rfl) ?_
    refine lv_isub hx hb dX6_drawJitter_20 ?_
    refine lv_goto (tgt := 25) hx hb dX6_drawJitter_21 (by decide) ?_
    exact e_mi C0 (hf.symm.trans hF) hP hS dX6_drawJitter_25
noncomputable def pX6_listen_L141  (q_10 : Int32 → Int32 → Int32 → Int32 → Int32 → TS → BS → (TS × BS)) (v2_141 : Int32) (v3_141 : Int32) (v4_141 : Int32) (v5_141 : Int32) (v6_141 : Int32) (t_141 : TS) (b_141 : BS) : TS × BS := lt (v6_141 + 1) fun (x15 : Int32) => q_10 v2_141 v3_141 v4_141 v5_141 x15 t_141 b_141
def kX6_listen_L141  (Q_10 : Int32 → Int32 → Int32 → Int32 → Int32 → TS → BS → Prop) (v2_141 : Int32) (v3_141 : Int32) (v4_141 : Int32) (v5_141 : Int32) (v6_141 : Int32) (t_141 : TS) (b_141 : BS) : Prop := lt (v6_141 + 1) fun (x15 : Int32) => Q_10 v2_141 v3_141 v4_141 v5_141 x15 t_141 b_141
noncomputable def pX6_listen_L133  (q_10 : Int32 → Int32 → Int32 → Int32 → Int32 → TS → BS → (TS × BS)) (v2_133 : Int32) (v3_133 : Int32) (v6_133 : Int32) (v9_133 : Int32) (t_133 : TS) (b_133 : BS) : TS × BS := pX6_listen_L141 q_10 v2_133 v3_133 v6_133 v9_133 v6_133 t_133 b_133
def kX6_listen_L133  (Q_10 : Int32 → Int32 → Int32 → Int32 → Int32 → TS → BS → Prop) (v2_133 : Int32) (v3_133 : Int32) (v6_133 : Int32) (v9_133 : Int32) (t_133 : TS) (b_133 : BS) : Prop := kX6_listen_L141 Q_10 v2_133 v3_133 v6_133 v9_133 v6_133 t_133 b_133
noncomputable def pX6_listen_L59  (q_10 : Int32 → Int32 → Int32 → Int32 → Int32 → TS → BS → (TS × BS)) (v2_59 : Int32) (v3_59 : Int32) (v4_59 : Int32) (v5_59 : Int32) (v6_59 : Int32) (v7_59 : Bool) (t0_59 : Int32) (t_59 : TS) (b_59 : BS) : TS × BS := if v7_59 = true then (pX6_listen_L141 q_10 v2_59 v3_59 v4_59 v5_59 v6_59 t_59 b_59) else (if (pX2_setting b_59 4) ≤ (pX9_at 17 6 102 t_59 v6_59 3) then (lt ((v3_59 + (pX9_at 17 6 102 t_59 v6_59 2)) + t0_59) fun (x20 : Int32) => if v4_59 = (-1000000000) then (pX6_listen_L133 q_10 v2_59 v3_59 v6_59 x20 t_59 b_59) else (if (pX6_isPreferred t_59 b_59 v6_59 x20 v4_59 v5_59) = true then (pX6_listen_L133 q_10 v2_59 v3_59 v6_59 x20 t_59 b_59) else (pX6_listen_L141 q_10 v2_59 v3_59 v4_59 v5_59 v6_59 t_59 b_59))) else (pX6_listen_L141 q_10 v2_59 v3_59 v4_59 v5_59 v6_59 t_59 b_59))
def kX6_listen_L59  (Q_10 : Int32 → Int32 → Int32 → Int32 → Int32 → TS → BS → Prop) (v2_59 : Int32) (v3_59 : Int32) (v4_59 : Int32) (v5_59 : Int32) (v6_59 : Int32) (v7_59 : Bool) (t0_59 : Int32) (t_59 : TS) (b_59 : BS) : Prop := if v7_59 = true then (kX6_listen_L141 Q_10 v2_59 v3_59 v4_59 v5_59 v6_59 t_59 b_59) else ((kX9_at 17 6 102 t_59 v6_59 3) ∧ ((kX2_setting b_59 4) ∧ (if (pX2_setting b_59 4) ≤ (pX9_at 17 6 102 t_59 v6_59 3) then ((kX9_at 17 6 102 t_59 v6_59 2) ∧ (lt ((v3_59 + (pX9_at 17 6 102 t_59 v6_59 2)) + t0_59) fun (x20 : Int32) => if v4_59 = (-1000000000) then (kX6_listen_L133 Q_10 v2_59 v3_59 v6_59 x20 t_59 b_59) else ((kX6_isPreferred t_59 b_59 v6_59 x20 v4_59 v5_59) ∧ (if (pX6_isPreferred t_59 b_59 v6_59 x20 v4_59 v5_59) = true then (kX6_listen_L133 Q_10 v2_59 v3_59 v6_59 x20 t_59 b_59) else (kX6_listen_L141 Q_10 v2_59 v3_59 v4_59 v5_59 v6_59 t_59 b_59))))) else (kX6_listen_L141 Q_10 v2_59 v3_59 v4_59 v5_59 v6_59 t_59 b_59))))
noncomputable def pX6_listen_L44  (q_10 : Int32 → Int32 → Int32 → Int32 → Int32 → TS → BS → (TS × BS)) (v2_44 : Int32) (v3_44 : Int32) (v4_44 : Int32) (v5_44 : Int32) (v6_44 : Int32) (t0_44 : Bool) (t_44 : TS) (b_44 : BS) : TS × BS := if t0_44 = true then (pX6_listen_L59 q_10 v2_44 v3_44 v4_44 v5_44 v6_44 t0_44 0 t_44 b_44) else (bd (pX6_drawJitter b_44) fun (r12 : Int32) (u13 : BS) => pX6_listen_L59 q_10 v2_44 v3_44 v4_44 v5_44 v6_44 t0_44 r12 t_44 u13)
def kX6_listen_L44  (Q_10 : Int32 → Int32 → Int32 → Int32 → Int32 → TS → BS → Prop) (v2_44 : Int32) (v3_44 : Int32) (v4_44 : Int32) (v5_44 : Int32) (v6_44 : Int32) (t0_44 : Bool) (t_44 : TS) (b_44 : BS) : Prop := if t0_44 = true then (kX6_listen_L59 Q_10 v2_44 v3_44 v4_44 v5_44 v6_44 t0_44 0 t_44 b_44) else ((kX6_drawJitter b_44) ∧ (bd (pX6_drawJitter b_44) fun (r12 : Int32) (u13 : BS) => kX6_listen_L59 Q_10 v2_44 v3_44 v4_44 v5_44 v6_44 t0_44 r12 t_44 u13))
noncomputable def bX6_listen_L10   (q_10 : Int32 → Int32 → Int32 → Int32 → Int32 → TS → BS → (TS × BS)) (v2_10 : Int32) (v3_10 : Int32) (v4_10 : Int32) (v5_10 : Int32) (v6_10 : Int32) (t_10 : TS) (b_10 : BS) : TS × BS := if t_10.1 ≤ v6_10 then (lt (pX6_write t_10 b_10 v2_10 v4_10 v5_10) fun (u4 : TS × BS) => (u4.1, u4.2)) else (bd (pX2_draw b_10 100) fun (r6 : Int32) (u7 : BS) => if (pX2_setting u7 2) ≤ r6 then (pX6_listen_L44 q_10 v2_10 v3_10 v4_10 v5_10 v6_10 false t_10 u7) else (pX6_listen_L44 q_10 v2_10 v3_10 v4_10 v5_10 v6_10 true t_10 u7))
noncomputable def pX6_listen_L10   : Nat → Int32 → Int32 → Int32 → Int32 → Int32 → TS → BS → (TS × BS)
  | 0 => fun _ _ _ _ _ t_10 b_10 => (t_10, b_10)
  | n + 1 => bX6_listen_L10   (pX6_listen_L10   n)
def kbX6_listen_L10   (Q_10 : Int32 → Int32 → Int32 → Int32 → Int32 → TS → BS → Prop) (v2_10 : Int32) (v3_10 : Int32) (v4_10 : Int32) (v5_10 : Int32) (v6_10 : Int32) (t_10 : TS) (b_10 : BS) : Prop := if t_10.1 ≤ v6_10 then (kX6_write t_10 b_10 v2_10 v4_10 v5_10) else ((kX2_draw b_10 100) ∧ (bd (pX2_draw b_10 100) fun (r6 : Int32) (u7 : BS) => (kX2_setting u7 2) ∧ (if (pX2_setting u7 2) ≤ r6 then (kX6_listen_L44 Q_10 v2_10 v3_10 v4_10 v5_10 v6_10 false t_10 u7) else (kX6_listen_L44 Q_10 v2_10 v3_10 v4_10 v5_10 v6_10 true t_10 u7))))
noncomputable def kX6_listen_L10   : Nat → Int32 → Int32 → Int32 → Int32 → Int32 → TS → BS → Prop
  | 0 => fun _ _ _ _ _ _ _ => False
  | n + 1 => kbX6_listen_L10   (kX6_listen_L10   n)
noncomputable def pX6_listen (t : TS) (b : BS) (a2 : Int32) (a3 : Int32) : TS × BS := pX6_listen_L10 fu a2 a3 (-1000000000) 0 0 t b
def kX6_listen (t : TS) (b : BS) (a2 : Int32) (a3 : Int32) : Prop := kX6_listen_L10 fu a2 a3 (-1000000000) 0 0 t b
abbrev rX6_listen : Room := { frames := 3, cells := 0, slots := 0, locals := 68 }
set_option maxHeartbeats 4000000 in
set_option maxRecDepth 100000 in
theorem mX6_listen (l : Launch) (dC : Nat → ClassId) (dI : Nat → Nat → Nat) (cI cB cO cL : ClassId) (qe : Nat → Nat) (qb : Nat → Nat) (t : TS) (b : BS) (a2 : Int32) (a3 : Int32) (hI : gD (fun _ => True) (eAd qe ++ bAd qb)) (hok : kX6_listen t b a2 a3) : Met l yX6_listen wsX6_listen rX6_listen (cP (dC, dI) (tYS cI cB cO cL) (ew qe cI t ++ bw qb cI b) [.ref (qe 0), .ref (qb 0), .int a2, .int a3]) (gQv (dC, dI) (fun z9 : TS × BS => ew qe cI z9.1 ++ bw qb cI z9.2) (wA (ew qe cI t ++ bw qb cI b)) (pX6_listen t b a2 a3)) 0 0 (wA (ew qe cI t ++ bw qb cI b)) := by
  refine cMet (cc := cX6_listen) (maxL := 10) (ret := none) [(0, .ref (qe 0)), (1, .ref (qb 0)), (2, .int a2), (3, .int a3)] (by decide) rfl rfl rfl ?_
  intro p e s mi below meth c C0 hK hE hP ls hl
  obtain ⟨hx, hb, hr, hml, hown, hts, hlocks⟩ := id C0
  have hown : s.vm.findClass RX6 = some mi.cls := hown
  have hS : va_S (wA (ew qe cI t ++ bw qb cI b)) s.heap s.heap [] := va_S.rf
  have hD : gD (wA (ew qe cI t ++ bw qb cI b)) (eAd qe ++ bAd qb) := gD_wA (ws := ew qe cI t ++ bw qb cI b) hI
  have hP : va_P (dC, dI) vwCl (ew qe cI t ++ bw qb cI b) s.heap := hP
  obtain ⟨F, hF⟩ : ∃ F, F = pX6_listen t b a2 a3 := ⟨_, rfl⟩
  have hf := hF
  have hin6 : ∀ w ∈ u_ws RX6 TX6 1, w ∈ wsX6_listen := by decide +kernel
  have hin1 : ∀ w ∈ u_ws RX1 TX1 1, w ∈ wsX6_listen := by decide +kernel
  have hin9 : ∀ w ∈ u_ws RX9 TX9 4, w ∈ wsX6_listen := by decide +kernel
  have hin2 : ∀ w ∈ u_ws RX2 TX2 8, w ∈ wsX6_listen := by decide +kernel
  have cn61 := hts (.constant RX6 61 (-1000000000)) (by decide +kernel)
  have fl12 := hts (.fieldLink RX6 12 "ClickBench$Ear" "coming" "LClickBench$Arrivals;") (by decide +kernel)
  have fl62 := hts (.fieldLink RX6 62 "ClickBench$Arrivals" "list" "LClickBench$Table;") (by decide +kernel)
  have fl24 := hts (.fieldLink RX6 24 "ClickBench$Table" "count" "I") (by decide +kernel)
  have fl18 := hts (.fieldLink RX6 18 "ClickBench$Bench" "microphones" "LClickBench$Table;") (by decide +kernel)
  have J_10 : ∀ (n_10 : Nat) (v2_10 : Int32) (v3_10 : Int32) (v4_10 : Int32) (v5_10 : Int32) (v6_10 : Int32) (t_10 : TS) (b_10 : BS) (H : Heap) (locs : List Loc), va_P (dC, dI) vwCl (ew qe cI t_10 ++ bw qb cI b_10) H → va_S (wA (ew qe cI t ++ bw qb cI b)) s.heap H locs → ∀ ls : Array Slot, lv_has ls 10 [(0, .ref (qe 0)), (1, .ref (qb 0)), (2, .int v2_10), (3, .int v3_10), (4, .int v4_10), (5, .int v5_10), (6, .int v6_10)] → F = pX6_listen_L10 n_10 v2_10 v3_10 v4_10 v5_10 v6_10 t_10 b_10 → kX6_listen_L10 n_10 v2_10 v3_10 v4_10 v5_10 v6_10 t_10 b_10 → W p l e rX6_listen s mi ([.ref (qe 0), .ref (qb 0), .int a2, .int a3] : List Value).toArray below meth c H locs 0 0 (MQ below (gQv (dC, dI) (fun z9 : TS × BS => ew qe cI z9.1 ++ bw qb cI z9.2) (wA (ew qe cI t ++ bw qb cI b)) (pX6_listen t b a2 a3)) ([.ref (qe 0), .ref (qb 0), .int a2, .int a3] : List Value).toArray s 0 0 (wA (ew qe cI t ++ bw qb cI b))) (F0 mi 10 ls []) := by
    intro n_10
    induction n_10 with
    | zero =>
      intro v2_10 v3_10 v4_10 v5_10 v6_10 t_10 b_10 H locs hP hS ls hl hf hok
      exact absurd hok (fun h => h)
    | succ n_10 ih_10 =>
      have J_141 : ∀ (v2_141 : Int32) (v3_141 : Int32) (v4_141 : Int32) (v5_141 : Int32) (v6_141 : Int32) (t_141 : TS) (b_141 : BS) (H : Heap) (locs : List Loc), va_P (dC, dI) vwCl (ew qe cI t_141 ++ bw qb cI b_141) H → va_S (wA (ew qe cI t ++ bw qb cI b)) s.heap H locs → ∀ ls : Array Slot, lv_has ls 10 [(0, .ref (qe 0)), (1, .ref (qb 0)), (2, .int v2_141), (3, .int v3_141), (4, .int v4_141), (5, .int v5_141), (6, .int v6_141)] → F = pX6_listen_L141 (pX6_listen_L10 n_10) v2_141 v3_141 v4_141 v5_141 v6_141 t_141 b_141 → kX6_listen_L141 (kX6_listen_L10 n_10) v2_141 v3_141 v4_141 v5_141 v6_141 t_141 b_141 → W p l e rX6_listen s mi ([.ref (qe 0), .ref (qb 0), .int a2, .int a3] : List Value).toArray below meth c H locs 0 0 (MQ below (gQv (dC, dI) (fun z9 : TS × BS => ew qe cI z9.1 ++ bw qb cI z9.2) (wA (ew qe cI t ++ bw qb cI b)) (pX6_listen t b a2 a3)) ([.ref (qe 0), .ref (qb 0), .int a2, .int a3] : List Value).toArray s 0 0 (wA (ew qe cI t ++ bw qb cI b))) (F0 mi 141 ls []) := by
        intro v2_141 v3_141 v4_141 v5_141 v6_141 t_141 b_141 H locs hP hS ls hl hf hok
        obtain ⟨x15, ex15⟩ : ∃ y : Int32, y = v6_141 + 1 := ⟨_, rfl⟩
        refine lv_iinc (v := x15) (lv' := [(6, .int x15), (0, .ref (qe 0)), (1, .ref (qb 0)), (2, .int v2_141), (3, .int v3_141), (4, .int v4_141), (5, .int v5_141)]) hx hb dX6_listen_141 hl (k := 6) rfl (by rw [ex15]; rfl) (by decide) rfl (fun ls hl => ?_)
        have hf := lt_eq ex15 hf
        have hok := lt_ok ex15 hok
        refine lv_goto (tgt := 10) hx hb dX6_listen_144 (by decide) ?_
        exact ih_10 v2_141 v3_141 v4_141 v5_141 x15 t_141 b_141 _ _ hP hS _ (lv_sub hl [1, 2, 3, 4, 5, 6, 0] rfl) hf hok
      have J_133 : ∀ (v2_133 : Int32) (v3_133 : Int32) (v6_133 : Int32) (v9_133 : Int32) (t_133 : TS) (b_133 : BS) (H : Heap) (locs : List Loc), va_P (dC, dI) vwCl (ew qe cI t_133 ++ bw qb cI b_133) H → va_S (wA (ew qe cI t ++ bw qb cI b)) s.heap H locs → ∀ ls : Array Slot, lv_has ls 10 [(0, .ref (qe 0)), (1, .ref (qb 0)), (2, .int v2_133), (3, .int v3_133), (6, .int v6_133), (9, .int v9_133)] → F = pX6_listen_L133 (pX6_listen_L10 n_10) v2_133 v3_133 v6_133 v9_133 t_133 b_133 → kX6_listen_L133 (kX6_listen_L10 n_10) v2_133 v3_133 v6_133 v9_133 t_133 b_133 → W p l e rX6_listen s mi ([.ref (qe 0), .ref (qb 0), .int a2, .int a3] : List Value).toArray below meth c H locs 0 0 (MQ below (gQv (dC, dI) (fun z9 : TS × BS => ew qe cI z9.1 ++ bw qb cI z9.2) (wA (ew qe cI t ++ bw qb cI b)) (pX6_listen t b a2 a3)) ([.ref (qe 0), .ref (qb 0), .int a2, .int a3] : List Value).toArray s 0 0 (wA (ew qe cI t ++ bw qb cI b))) (F0 mi 133 ls []) := by
        intro v2_133 v3_133 v6_133 v9_133 t_133 b_133 H locs hP hS ls hl hf hok
        refine lv_iload hx hb dX6_listen_133 (lv_at hl 4 rfl) ?_
        refine lv_istore (lv' := [(4, .int v6_133), (0, .ref (qe 0)), (1, .ref (qb 0)), (2, .int v2_133), (3, .int v3_133), (6, .int v6_133), (9, .int v9_133)]) hx hb dX6_listen_135 hl (by decide) rfl (fun ls hl => ?_)
        refine lv_iload hx hb dX6_listen_137 (lv_at hl 6 rfl) ?_
        refine lv_istore (lv' := [(5, .int v9_133), (4, .int v6_133), (0, .ref (qe 0)), (1, .ref (qb 0)), (2, .int v2_133), (3, .int v3_133), (6, .int v6_133), (9, .int v9_133)]) hx hb dX6_listen_139 hl (by decide) rfl (fun ls hl => ?_)
        exact J_141 v2_133 v3_133 v6_133 v9_133 v6_133 t_133 b_133 _ _ hP hS _ (lv_sub hl [2, 3, 4, 5, 1, 0, 6] rfl) hf hok
      have J_59 : ∀ (v2_59 : Int32) (v3_59 : Int32) (v4_59 : Int32) (v5_59 : Int32) (v6_59 : Int32) (v7_59 : Bool) (t0_59 : Int32) (t_59 : TS) (b_59 : BS) (H : Heap) (locs : List Loc), va_P (dC, dI) vwCl (ew qe cI t_59 ++ bw qb cI b_59) H → va_S (wA (ew qe cI t ++ bw qb cI b)) s.heap H locs → ∀ ls : Array Slot, lv_has ls 10 [(0, .ref (qe 0)), (1, .ref (qb 0)), (2, .int v2_59), (3, .int v3_59), (4, .int v4_59), (5, .int v5_59), (6, .int v6_59), (7, .int (bz v7_59))] → F = pX6_listen_L59 (pX6_listen_L10 n_10) v2_59 v3_59 v4_59 v5_59 v6_59 v7_59 t0_59 t_59 b_59 → kX6_listen_L59 (kX6_listen_L10 n_10) v2_59 v3_59 v4_59 v5_59 v6_59 v7_59 t0_59 t_59 b_59 → W p l e rX6_listen s mi ([.ref (qe 0), .ref (qb 0), .int a2, .int a3] : List Value).toArray below meth c H locs 0 0 (MQ below (gQv (dC, dI) (fun z9 : TS × BS => ew qe cI z9.1 ++ bw qb cI z9.2) (wA (ew qe cI t ++ bw qb cI b)) (pX6_listen t b a2 a3)) ([.ref (qe 0), .ref (qb 0), .int a2, .int a3] : List Value).toArray s 0 0 (wA (ew qe cI t ++ bw qb cI b))) (F0 mi 59 ls [.int t0_59]) := by
        intro v2_59 v3_59 v4_59 v5_59 v6_59 v7_59 t0_59 t_59 b_59 H locs hP hS ls hl hf hok
        refine lv_istore (lv' := [(8, .int t0_59), (0, .ref (qe 0)), (1, .ref (qb 0)), (2, .int v2_59), (3, .int v3_59), (4, .int v4_59), (5, .int v5_59), (6, .int v6_59), (7, .int (bz v7_59))]) hx hb dX6_listen_59 hl (by decide) rfl (fun ls hl => ?_)
        refine lv_iload hx hb dX6_listen_61 (lv_at hl 8 rfl) ?_
        refine lv_if_ne (tgt := 141) hx hb dX6_listen_63 (by decide) (fun c14 => ?_) (fun c14 => ?_)
        · have c14 := bz_t c14
          have hf := it_eq c14 hf
          have hok := it_ok c14 hok
          exact J_141 v2_59 v3_59 v4_59 v5_59 v6_59 t_59 b_59 _ _ hP hS _ (lv_sub hl [1, 2, 3, 4, 5, 6, 7] rfl) hf hok
        · have c14 := bz_f c14
          have hf := ie_eq c14 hf
          have hok := ie_ok c14 hok
          refine lv_aload_n hx hb dX6_listen_66 rfl (lv_at hl 1 rfl) ?_
          refine va_get (D := (dC, dI)) (ci := 4) (v := .ref (qe 1)) (C := RX6) (T := TX6) (N := 1) hx hb hts hin6 hown hK hP 0 rfl rfl 0 (by decide) fl12 (fun _ h9 => h9) rfl dX6_listen_67 ?_
          refine va_get (D := (dC, dI)) (ci := 0) (v := .ref (qe 2)) (C := RX1) (T := TX1) (N := 1) hx hb hts hin1 hown hK hP 1 rfl rfl 0 (by decide) fl62 (fun _ h9 => h9) rfl dX6_listen_70 ?_
          refine lv_iload hx hb dX6_listen_73 (lv_at hl 7 rfl) ?_
          refine lv_iconst (v := 3) hx hb dX6_listen_75 (by decide) ?_
          obtain ⟨h16, hok⟩ := hok
          have hPc := hP.sub (ws' := tw (tad (qe 2) (qe 3)) cI 17 6 102 t_59) [2, 3] rfl
          refine gro_i (va_runV (As := [.int v6_59, .int 3]) (rest := []) ⟨hx, hb, hml, hown, hts⟩ (mX9_at l dC dI cI cB cO cL (tad (qe 2) (qe 3)) 17 6 102 t_59 v6_59 3  h16) (cwV 2 hts gX6_listen_X9_at rfl rfl rfl (by decide +kernel) ⟨Nat.le_of_ble_eq_true rfl, Nat.le_of_ble_eq_true rfl⟩) ⟨cP_blind, va_recv hK hPc (ci := 6) (q0 := 0) rfl rfl, cP_ok hPc hK hE⟩ rfl rfl hl.1 rfl (lv_room (Nat.le_of_ble_eq_true rfl)) dX6_listen_76 ⟨Nat.zero_le _, Nat.zero_le _⟩) ?_
          refine lv_aload_n hx hb dX6_listen_79 rfl (lv_at hl 2 rfl) ?_
          refine lv_iconst (v := 4) hx hb dX6_listen_80 (by decide) ?_
          obtain ⟨h17, hok⟩ := hok
          have hPc := hP.sub (ws' := bw qb cI b_59) [4, 5, 6, 7, 8, 9, 10, 11, 12] rfl
          refine gro_i (va_runV (As := [.int 4]) (rest := [.int (pX9_at 17 6 102 t_59 v6_59 3)]) ⟨hx, hb, hml, hown, hts⟩ (mX2_setting l dC dI cI cB cO cL qb b_59 4  h17) (cwV 1 hts gX6_listen_X2_setting rfl rfl rfl (by decide +kernel) ⟨Nat.le_of_ble_eq_true rfl, Nat.le_of_ble_eq_true rfl⟩) ⟨cP_blind, va_recv hK hPc (ci := 1) (q0 := 0) rfl rfl, cP_ok hPc hK hE⟩ rfl rfl hl.1 rfl (lv_room (Nat.le_of_ble_eq_true rfl)) dX6_listen_81 ⟨Nat.zero_le _, Nat.zero_le _⟩) ?_
          refine lv_icmp_ge (tgt := 90) hx hb dX6_listen_84 (by decide) (fun c18 => ?_) (fun c18 => ?_)
          · have hf := it_eq c18 hf
            have hok := it_ok c18 hok
            refine lv_iload_n hx hb dX6_listen_90 rfl (lv_at hl 4 rfl) ?_
            refine lv_aload_n hx hb dX6_listen_91 rfl (lv_at hl 1 rfl) ?_
            refine va_get (D := (dC, dI)) (ci := 4) (v := .ref (qe 1)) (C := RX6) (T := TX6) (N := 1) hx hb hts hin6 hown hK hP 0 rfl rfl 0 (by decide) fl12 (fun _ h9 => h9) rfl dX6_listen_92 ?_
            refine va_get (D := (dC, dI)) (ci := 0) (v := .ref (qe 2)) (C := RX1) (T := TX1) (N := 1) hx hb hts hin1 hown hK hP 1 rfl rfl 0 (by decide) fl62 (fun _ h9 => h9) rfl dX6_listen_95 ?_
            refine lv_iload hx hb dX6_listen_98 (lv_at hl 7 rfl) ?_
            refine lv_iconst (v := 2) hx hb dX6_listen_100 (by decide) ?_
            obtain ⟨h19, hok⟩ := hok
            have hPc := hP.sub (ws' := tw (tad (qe 2) (qe 3)) cI 17 6 102 t_59) [2, 3] rfl
            refine gro_i (va_runV (As := [.int v6_59, .int 2]) (rest := [.int v3_59]) ⟨hx, hb, hml, hown, hts⟩ (mX9_at l dC dI cI cB cO cL (tad (qe 2) (qe 3)) 17 6 102 t_59 v6_59 2  h19) (cwV 2 hts gX6_listen_X9_at rfl rfl rfl (by decide +kernel) ⟨Nat.le_of_ble_eq_true rfl, Nat.le_of_ble_eq_true rfl⟩) ⟨cP_blind, va_recv hK hPc (ci := 6) (q0 := 0) rfl rfl, cP_ok hPc hK hE⟩ rfl rfl hl.1 rfl (lv_room (Nat.le_of_ble_eq_true rfl)) dX6_listen_101 ⟨Nat.zero_le _, Nat.zero_le _⟩) ?_
            refine lv_iadd hx hb dX6_listen_104 ?_
            refine lv_iload hx hb dX6_listen_105 (lv_at hl 0 rfl) ?_
            refine lv_iadd hx hb dX6_listen_107 ?_
            refine lv_topi (fun x20 ex20 => ?_)
            have hf := lt_eq ex20 hf
            have hok := lt_ok ex20 hok
            refine lv_istore (lv' := [(9, .int x20), (8, .int t0_59), (0, .ref (qe 0)), (1, .ref (qb 0)), (2, .int v2_59), (3, .int v3_59), (4, .int v4_59), (5, .int v5_59), (6, .int v6_59), (7, .int (bz v7_59))]) hx hb dX6_listen_108 hl (by decide) rfl (fun ls hl => ?_)
            refine lv_iload hx hb dX6_listen_110 (lv_at hl 6 rfl) ?_
            refine lv_ldc (v := (-1000000000)) hx hb hown cn61 dX6_listen_112 ?_
            refine lv_icmp_eq (tgt := 133) hx hb dX6_listen_114 (by decide) (fun c21 => ?_) (fun c21 => ?_)
            · have hf := it_eq c21 hf
              have hok := it_ok c21 hok
              exact J_133 v2_59 v3_59 v6_59 x20 t_59 b_59 _ _ hP hS _ (lv_sub hl [2, 3, 4, 5, 8, 0] rfl) hf hok
            · have hf := ie_eq c21 hf
              have hok := ie_ok c21 hok
              refine lv_aload_n hx hb dX6_listen_117 rfl (lv_at hl 2 rfl) ?_
              refine lv_aload_n hx hb dX6_listen_118 rfl (lv_at hl 3 rfl) ?_
              refine lv_iload hx hb dX6_listen_119 (lv_at hl 8 rfl) ?_
              refine lv_iload hx hb dX6_listen_121 (lv_at hl 0 rfl) ?_
              refine lv_iload hx hb dX6_listen_123 (lv_at hl 6 rfl) ?_
              refine lv_iload hx hb dX6_listen_125 (lv_at hl 7 rfl) ?_
              obtain ⟨h22, hok⟩ := hok
              refine gro_i (va_runV (As := [.ref (qb 0), .int v6_59, .int x20, .int v4_59, .int v5_59]) (rest := []) ⟨hx, hb, hml, hown, hts⟩ (mX6_isPreferred l dC dI cI cB cO cL qe qb t_59 b_59 v6_59 x20 v4_59 v5_59  h22) (cwV 5 hts gX6_listen_X6_isPreferred rfl rfl rfl (by decide +kernel) ⟨Nat.le_of_ble_eq_true rfl, Nat.le_of_ble_eq_true rfl⟩) ⟨cP_blind, va_recv hK hP (ci := 4) (q0 := 0) rfl rfl, cP_ok hP hK hE⟩ rfl rfl hl.1 rfl (lv_room (Nat.le_of_ble_eq_true rfl)) dX6_listen_127 ⟨Nat.zero_le _, Nat.zero_le _⟩) ?_
              refine lv_if_eq (tgt := 141) hx hb dX6_listen_130 (by decide) (fun c23 => ?_) (fun c23 => ?_)
              · have c23 := bz_f c23
                have hf := ie_eq c23 hf
                have hok := ie_ok c23 hok
                exact J_141 v2_59 v3_59 v4_59 v5_59 v6_59 t_59 b_59 _ _ hP hS _ (lv_sub hl [2, 3, 4, 5, 6, 7, 8] rfl) hf hok
              · have c23 := bz_t c23
                have hf := it_eq c23 hf
                have hok := it_ok c23 hok
                exact J_133 v2_59 v3_59 v6_59 x20 t_59 b_59 _ _ hP hS _ (lv_sub hl [2, 3, 4, 5, 8, 0] rfl) hf hok
          · have hf := ie_eq c18 hf
            have hok := ie_ok c18 hok
            refine lv_goto (tgt := 141) hx hb dX6_listen_87 (by decide) ?_
            exact J_141 v2_59 v3_59 v4_59 v5_59 v6_59 t_59 b_59 _ _ hP hS _ (lv_sub hl [1, 2, 3, 4, 5, 6, 7] rfl) hf hok
      have J_44 : ∀ (v2_44 : Int32) (v3_44 : Int32) (v4_44 : Int32) (v5_44 : Int32) (v6_44 : Int32) (t0_44 : Bool) (t_44 : TS) (b_44 : BS) (H : Heap) (locs : List Loc), va_P (dC, dI) vwCl (ew qe cI t_44 ++ bw qb cI b_44) H → va_S (wA (ew qe cI t ++ bw qb cI b)) s.heap H locs → ∀ ls : Array Slot, lv_has ls 10 [(0, .ref (qe 0)), (1, .ref (qb 0)), (2, .int v2_44), (3, .int v3_44), (4, .int v4_44), (5, .int v5_44), (6, .int v6_44)] → F = pX6_listen_L44 (pX6_listen_L10 n_10) v2_44 v3_44 v4_44 v5_44 v6_44 t0_44 t_44 b_44 → kX6_listen_L44 (kX6_listen_L10 n_10) v2_44 v3_44 v4_44 v5_44 v6_44 t0_44 t_44 b_44 → W p l e rX6_listen s mi ([.ref (qe 0), .ref (qb 0), .int a2, .int a3] : List Value).toArray below meth c H locs 0 0 (MQ below (gQv (dC, dI) (fun z9 : TS × BS => ew qe cI z9.1 ++ bw qb cI z9.2) (wA (ew qe cI t ++ bw qb cI b)) (pX6_listen t b a2 a3)) ([.ref (qe 0), .ref (qb 0), .int a2, .int a3] : List Value).toArray s 0 0 (wA (ew qe cI t ++ bw qb cI b))) (F0 mi 44 ls [.int (bz t0_44)]) := by
        intro v2_44 v3_44 v4_44 v5_44 v6_44 t0_44 t_44 b_44 H locs hP hS ls hl hf hok
        refine lv_istore (lv' := [(7, .int (bz t0_44)), (0, .ref (qe 0)), (1, .ref (qb 0)), (2, .int v2_44), (3, .int v3_44), (4, .int v4_44), (5, .int v5_44), (6, .int v6_44)]) hx hb dX6_listen_44 hl (by decide) rfl (fun ls hl => ?_)
        refine lv_iload hx hb dX6_listen_46 (lv_at hl 0 rfl) ?_
        refine lv_if_eq (tgt := 55) hx hb dX6_listen_48 (by decide) (fun c10 => ?_) (fun c10 => ?_)
        · have c10 := bz_f c10
          have hf := ie_eq c10 hf
          have hok := ie_ok c10 hok
          refine lv_aload_n hx hb dX6_listen_55 rfl (lv_at hl 2 rfl) ?_
          obtain ⟨h11, hok⟩ := hok
          have hPc := hP.sub (ws' := bw qb cI b_44) [4, 5, 6, 7, 8, 9, 10, 11, 12] rfl
          refine gmu_i (va_runS (As := [.ref (qb 0)]) (rest := []) ⟨hx, hb, hml, hown, hts⟩ (mX6_drawJitter l dC dI cI cB cO cL qb b_44 (gD_subT hD [4, 5, 6, 7, 8, 9, 10, 11, 12] rfl rfl) h11) (va_cwS 1 hts gX6_listen_X6_drawJitter rfl rfl rfl (by decide +kernel) ⟨Nat.le_of_ble_eq_true rfl, Nat.le_of_ble_eq_true rfl⟩) ⟨cP_blind, cP_ok hPc hK hE⟩ rfl rfl hl.1 rfl (lv_room (Nat.le_of_ble_eq_true rfl)) dX6_listen_56 ⟨Nat.zero_le _, Nat.zero_le _⟩) hP (gD_va hD rfl) hS [4, 5, 6, 7, 8, 9, 10, 11, 12] rfl (fun _ => rfl) (fun r12 u13 H locs hw hP hS => ?_)
          have hP : va_P (dC, dI) vwCl (ew qe cI t_44 ++ bw qb cI u13) H := hP
          have hf := bd_eq hw hf
          have hok := bd_ok hw hok
          exact J_59 v2_44 v3_44 v4_44 v5_44 v6_44 t0_44 r12 t_44 u13 _ _ hP hS _ (lv_sub hl [1, 2, 3, 4, 5, 6, 7, 0] rfl) hf hok
        · have c10 := bz_t c10
          have hf := it_eq c10 hf
          have hok := it_ok c10 hok
          refine lv_iconst (v := 0) hx hb dX6_listen_51 (by decide) ?_
          refine lv_goto (tgt := 59) hx hb dX6_listen_52 (by decide) ?_
          exact J_59 v2_44 v3_44 v4_44 v5_44 v6_44 t0_44 0 t_44 b_44 _ _ hP hS _ (lv_sub hl [1, 2, 3, 4, 5, 6, 7, 0] rfl) hf hok
      intro v2_10 v3_10 v4_10 v5_10 v6_10 t_10 b_10 H locs hP hS ls hl hf hok
      have hf : F = bX6_listen_L10 (pX6_listen_L10 n_10) v2_10 v3_10 v4_10 v5_10 v6_10 t_10 b_10 := hf
      have hok : kbX6_listen_L10 (kX6_listen_L10 n_10) v2_10 v3_10 v4_10 v5_10 v6_10 t_10 b_10 := hok
      refine lv_iload hx hb dX6_listen_10 (lv_at hl 6 rfl) ?_
      refine lv_aload_n hx hb dX6_listen_12 rfl (lv_at hl 0 rfl) ?_
      refine va_get (D := (dC, dI)) (ci := 4) (v := .ref (qe 1)) (C := RX6) (T := TX6) (N := 1) hx hb hts hin6 hown hK hP 0 rfl rfl 0 (by decide) fl12 (fun _ h9 => h9) rfl dX6_listen_13 ?_
      refine va_get (D := (dC, dI)) (ci := 0) (v := .ref (qe 2)) (C := RX1) (T := TX1) (N := 1) hx hb hts hin1 hown hK hP 1 rfl rfl 0 (by decide) fl62 (fun _ h9 => h9) rfl dX6_listen_16 ?_
      refine va_get (D := (dC, dI)) (ci := 6) (v := .int t_10.1) (C := RX9) (T := TX9) (N := 4) hx hb hts hin9 hown hK hP 2 rfl rfl 3 (by decide) fl24 (fun _ h9 => h9) rfl dX6_listen_19 ?_
      refine lv_icmp_ge (tgt := 147) hx hb dX6_listen_22 (by decide) (fun c1 => ?_) (fun c1 => ?_)
      · have hf := it_eq c1 hf
        have hok := it_ok c1 hok
        refine lv_aload_n hx hb dX6_listen_147 rfl (lv_at hl 0 rfl) ?_
        refine lv_aload_n hx hb dX6_listen_148 rfl (lv_at hl 1 rfl) ?_
        refine va_get (D := (dC, dI)) (ci := 1) (v := .ref (qb 1)) (C := RX2) (T := TX2) (N := 8) hx hb hts hin2 hown hK hP 4 rfl rfl 4 (by decide) fl18 (fun _ h9 => h9) rfl dX6_listen_149 ?_
        refine lv_iload_n hx hb dX6_listen_152 rfl (lv_at hl 2 rfl) ?_
        refine lv_iload hx hb dX6_listen_153 (lv_at hl 4 rfl) ?_
        refine lv_iload hx hb dX6_listen_155 (lv_at hl 5 rfl) ?_
        have h2 : kX6_write t_10 b_10 v2_10 v4_10 v5_10 := hok
        refine gms_v (va_runV (As := [.ref (qb 1), .int v2_10, .int v4_10, .int v5_10]) (rest := []) ⟨hx, hb, hml, hown, hts⟩ (mX6_write l dC dI cI cB cO cL qe qb t_10 b_10 v2_10 v4_10 v5_10 (gD_any hD) h2) (cwV 4 hts gX6_listen_X6_write rfl rfl rfl (by decide +kernel) ⟨Nat.le_of_ble_eq_true rfl, Nat.le_of_ble_eq_true rfl⟩) ⟨cP_blind, va_recv hK hP (ci := 4) (q0 := 0) rfl rfl, cP_ok hP hK hE⟩ rfl rfl hl.1 rfl (lv_room (Nat.le_of_ble_eq_true rfl)) dX6_listen_157 ⟨Nat.zero_le _, Nat.zero_le _⟩) hP (gD_va hD rfl) hS (fun u4 H locs hw hP hS => ?_)
        have hP : va_P (dC, dI) vwCl (ew qe cI u4.1 ++ bw qb cI u4.2) H := hP
        have hf := lt_eq hw hf
        exact e_mv C0 (hf.symm.trans hF) hP hS dX6_listen_160
      · have hf := ie_eq c1 hf
        have hok := ie_ok c1 hok
        refine lv_aload_n hx hb dX6_listen_25 rfl (lv_at hl 1 rfl) ?_
        refine lv_bipush (v := 100) hx hb dX6_listen_26 (by decide) ?_
        obtain ⟨h5, hok⟩ := hok
        have hPc := hP.sub (ws' := bw qb cI b_10) [4, 5, 6, 7, 8, 9, 10, 11, 12] rfl
        refine gmu_i (va_runV (As := [.int 100]) (rest := []) ⟨hx, hb, hml, hown, hts⟩ (mX2_draw l dC dI cI cB cO cL qb b_10 100 (gD_subT hD [4, 5, 6, 7, 8, 9, 10, 11, 12] rfl rfl) h5) (cwV 1 hts gX6_listen_X2_draw rfl rfl rfl (by decide +kernel) ⟨Nat.le_of_ble_eq_true rfl, Nat.le_of_ble_eq_true rfl⟩) ⟨cP_blind, va_recv hK hPc (ci := 1) (q0 := 0) rfl rfl, cP_ok hPc hK hE⟩ rfl rfl hl.1 rfl (lv_room (Nat.le_of_ble_eq_true rfl)) dX6_listen_28 ⟨Nat.zero_le _, Nat.zero_le _⟩) hP (gD_va hD rfl) hS [4, 5, 6, 7, 8, 9, 10, 11, 12] rfl (fun _ => rfl) (fun r6 u7 H locs hw hP hS => ?_)
        have hP : va_P (dC, dI) vwCl (ew qe cI t_10 ++ bw qb cI u7) H := hP
        have hf := bd_eq hw hf
        have hok := bd_ok hw hok
        refine lv_aload_n hx hb dX6_listen_31 rfl (lv_at hl 1 rfl) ?_
        refine lv_iconst (v := 2) hx hb dX6_listen_32 (by decide) ?_
        obtain ⟨h8, hok⟩ := hok
        have hPc := hP.sub (ws' := bw qb cI u7) [4, 5, 6, 7, 8, 9, 10, 11, 12] rfl
        refine gro_i (va_runV (As := [.int 2]) (rest := [.int r6]) ⟨hx, hb, hml, hown, hts⟩ (mX2_setting l dC dI cI cB cO cL qb u7 2  h8) (cwV 1 hts gX6_listen_X2_setting rfl rfl rfl (by decide +kernel) ⟨Nat.le_of_ble_eq_true rfl, Nat.le_of_ble_eq_true rfl⟩) ⟨cP_blind, va_recv hK hPc (ci := 1) (q0 := 0) rfl rfl, cP_ok hPc hK hE⟩ rfl rfl hl.1 rfl (lv_room (Nat.le_of_ble_eq_true rfl)) dX6_listen_33 ⟨Nat.zero_le _, Nat.zero_le _⟩) ?_
        refine lv_icmp_ge (tgt := 43) hx hb dX6_listen_36 (by decide) (fun c9 => ?_) (fun c9 => ?_)
        · have hf := it_eq c9 hf
          have hok := it_ok c9 hok
          refine lv_iconst (v := 0) hx hb dX6_listen_43 (by decide) ?_
          exact J_44 v2_10 v3_10 v4_10 v5_10 v6_10 false t_10 u7 _ _ hP hS _ (lv_sub hl [0, 1, 2, 3, 4, 5, 6] rfl) hf hok
        · have hf := ie_eq c9 hf
          have hok := ie_ok c9 hok
          refine lv_iconst (v := 1) hx hb dX6_listen_39 (by decide) ?_
          refine lv_goto (tgt := 44) hx hb dX6_listen_40 (by decide) ?_
          exact J_44 v2_10 v3_10 v4_10 v5_10 v6_10 true t_10 u7 _ _ hP hS _ (lv_sub hl [0, 1, 2, 3, 4, 5, 6] rfl) hf hok
  refine lv_ldc (v := (-1000000000)) hx hb hown cn61 dX6_listen_0 ?_
  refine lv_istore (lv' := [(4, .int (-1000000000)), (0, .ref (qe 0)), (1, .ref (qb 0)), (2, .int a2), (3, .int a3)]) hx hb dX6_listen_2 hl (by decide) rfl (fun ls hl => ?_)
  refine lv_iconst (v := 0) hx hb dX6_listen_4 (by decide) ?_
  refine lv_istore (lv' := [(5, .int 0), (4, .int (-1000000000)), (0, .ref (qe 0)), (1, .ref (qb 0)), (2, .int a2), (3, .int a3)]) hx hb dX6_listen_5 hl (by decide) rfl (fun ls hl => ?_)
  refine lv_iconst (v := 0) hx hb dX6_listen_7 (by decide) ?_
  refine lv_istore (lv' := [(6, .int 0), (5, .int 0), (4, .int (-1000000000)), (0, .ref (qe 0)), (1, .ref (qb 0)), (2, .int a2), (3, .int a3)]) hx hb dX6_listen_8 hl (by decide) rfl (fun ls hl => ?_)
  exact J_10 fu a2 a3 (-1000000000) 0 0 t b _ _ hP hS _ (lv_sub hl [3, 4, 5, 6, 2, 1, 0] rfl) hf hok
noncomputable def pX6_hearClick_L51  (q_6 : Int32 → Int32 → Int32 → Int32 → Int32 → TS → BS → (Int32 × TS × BS)) (v2_51 : Int32) (v3_51 : Int32) (v4_51 : Int32) (v5_51 : Int32) (v6_51 : Int32) (t_51 : TS) (b_51 : BS) : Int32 × TS × BS := lt (v6_51 + 1) fun (x11 : Int32) => q_6 v2_51 v3_51 v4_51 v5_51 x11 t_51 b_51
def kX6_hearClick_L51  (Q_6 : Int32 → Int32 → Int32 → Int32 → Int32 → TS → BS → Prop) (v2_51 : Int32) (v3_51 : Int32) (v4_51 : Int32) (v5_51 : Int32) (v6_51 : Int32) (t_51 : TS) (b_51 : BS) : Prop := lt (v6_51 + 1) fun (x11 : Int32) => Q_6 v2_51 v3_51 v4_51 v5_51 x11 t_51 b_51
noncomputable def bX6_hearClick_L6   (q_6 : Int32 → Int32 → Int32 → Int32 → Int32 → TS → BS → (Int32 × TS × BS)) (v2_6 : Int32) (v3_6 : Int32) (v4_6 : Int32) (v5_6 : Int32) (v6_6 : Int32) (t_6 : TS) (b_6 : BS) : Int32 × TS × BS := if (b_6.1 4) ≤ v6_6 then (lt (bsi b_6 2 ((b_6.1 2) + 1)) fun (b_2 : BS) => (v5_6, t_6, b_2)) else (lt (pX1_collect t_6 b_6 v2_6 v3_6 v6_6) fun (u5 : TS × BS) => lt (pX6_listen u5.1 u5.2 v6_6 v4_6) fun (u8 : TS × BS) => if (pX2_hasNoted u8.2 v6_6) = true then (lt (v5_6 + 1) fun (x12 : Int32) => pX6_hearClick_L51 q_6 v2_6 v3_6 v4_6 x12 v6_6 u8.1 u8.2) else (pX6_hearClick_L51 q_6 v2_6 v3_6 v4_6 v5_6 v6_6 u8.1 u8.2))
noncomputable def pX6_hearClick_L6   : Nat → Int32 → Int32 → Int32 → Int32 → Int32 → TS → BS → (Int32 × TS × BS)
  | 0 => fun _ _ _ _ _ t_6 b_6 => (0, t_6, b_6)
  | n + 1 => bX6_hearClick_L6   (pX6_hearClick_L6   n)
def kbX6_hearClick_L6   (Q_6 : Int32 → Int32 → Int32 → Int32 → Int32 → TS → BS → Prop) (v2_6 : Int32) (v3_6 : Int32) (v4_6 : Int32) (v5_6 : Int32) (v6_6 : Int32) (t_6 : TS) (b_6 : BS) : Prop := if (b_6.1 4) ≤ v6_6 then (True) else ((kX1_collect t_6 b_6 v2_6 v3_6 v6_6) ∧ (lt (pX1_collect t_6 b_6 v2_6 v3_6 v6_6) fun (u5 : TS × BS) => (kX6_listen u5.1 u5.2 v6_6 v4_6) ∧ (lt (pX6_listen u5.1 u5.2 v6_6 v4_6) fun (u8 : TS × BS) => (kX2_hasNoted u8.2 v6_6) ∧ (if (pX2_hasNoted u8.2 v6_6) = true then (lt (v5_6 + 1) fun (x12 : Int32) => kX6_hearClick_L51 Q_6 v2_6 v3_6 v4_6 x12 v6_6 u8.1 u8.2) else (kX6_hearClick_L51 Q_6 v2_6 v3_6 v4_6 v5_6 v6_6 u8.1 u8.2)))))
noncomputable def kX6_hearClick_L6   : Nat → Int32 → Int32 → Int32 → Int32 → Int32 → TS → BS → Prop
  | 0 => fun _ _ _ _ _ _ _ => False
  | n + 1 => kbX6_hearClick_L6   (kX6_hearClick_L6   n)
noncomputable def pX6_hearClick (t : TS) (b : BS) (a2 : Int32) (a3 : Int32) (a4 : Int32) : Int32 × TS × BS := pX6_hearClick_L6 fu a2 a3 a4 0 0 t b
def kX6_hearClick (t : TS) (b : BS) (a2 : Int32) (a3 : Int32) (a4 : Int32) : Prop := kX6_hearClick_L6 fu a2 a3 a4 0 0 t b
abbrev rX6_hearClick : Room := { frames := 5, cells := 0, slots := 0, locals := 127 }
set_option maxHeartbeats 4000000 in
set_option maxRecDepth 100000 in
theorem mX6_hearClick (l : Launch) (dC : Nat → ClassId) (dI : Nat → Nat → Nat) (cI cB cO cL : ClassId) (qe : Nat → Nat) (qb : Nat → Nat) (t : TS) (b : BS) (a2 : Int32) (a3 : Int32) (a4 : Int32) (hI : gD (fun _ => True) (eAd qe ++ bAd qb)) (hok : kX6_hearClick t b a2 a3 a4) : Met l yX6_hearClick wsX6_hearClick rX6_hearClick (cP (dC, dI) (tYS cI cB cO cL) (ew qe cI t ++ bw qb cI b) [.ref (qe 0), .ref (qb 0), .int a2, .int a3, .int a4]) (gQi (dC, dI) (fun z9 : TS × BS => ew qe cI z9.1 ++ bw qb cI z9.2) (wA (ew qe cI t ++ bw qb cI b)) (pX6_hearClick t b a2 a3 a4)) 0 0 (wA (ew qe cI t ++ bw qb cI b)) := by
  refine cMet (cc := cX6_hearClick) (maxL := 7) (ret := some .int) [(0, .ref (qe 0)), (1, .ref (qb 0)), (2, .int a2), (3, .int a3), (4, .int a4)] (by decide) rfl rfl rfl ?_
  intro p e s mi below meth c C0 hK hE hP ls hl
  obtain ⟨hx, hb, hr, hml, hown, hts, hlocks⟩ := id C0
  have hown : s.vm.findClass RX6 = some mi.cls := hown
  have hS : va_S (wA (ew qe cI t ++ bw qb cI b)) s.heap s.heap [] := va_S.rf
  have hD : gD (wA (ew qe cI t ++ bw qb cI b)) (eAd qe ++ bAd qb) := gD_wA (ws := ew qe cI t ++ bw qb cI b) hI
  have hP : va_P (dC, dI) vwCl (ew qe cI t ++ bw qb cI b) s.heap := hP
  obtain ⟨F, hF⟩ : ∃ F, F = pX6_hearClick t b a2 a3 a4 := ⟨_, rfl⟩
  have hf := hF
  have hin2 : ∀ w ∈ u_ws RX2 TX2 8, w ∈ wsX6_hearClick := by decide +kernel
  have hin9 : ∀ w ∈ u_ws RX9 TX9 4, w ∈ wsX6_hearClick := by decide +kernel
  have hin6 : ∀ w ∈ u_ws RX6 TX6 1, w ∈ wsX6_hearClick := by decide +kernel
  have fl18 := hts (.fieldLink RX6 18 "ClickBench$Bench" "microphones" "LClickBench$Table;") (by decide +kernel)
  have fl24 := hts (.fieldLink RX6 24 "ClickBench$Table" "count" "I") (by decide +kernel)
  have fl42 := hts (.fieldLink RX6 42 "ClickBench$Bench" "clicks" "I") (by decide +kernel)
  have fl12 := hts (.fieldLink RX6 12 "ClickBench$Ear" "coming" "LClickBench$Arrivals;") (by decide +kernel)
  have J_6 : ∀ (n_6 : Nat) (v2_6 : Int32) (v3_6 : Int32) (v4_6 : Int32) (v5_6 : Int32) (v6_6 : Int32) (t_6 : TS) (b_6 : BS) (H : Heap) (locs : List Loc), va_P (dC, dI) vwCl (ew qe cI t_6 ++ bw qb cI b_6) H → va_S (wA (ew qe cI t ++ bw qb cI b)) s.heap H locs → ∀ ls : Array Slot, lv_has ls 7 [(0, .ref (qe 0)), (1, .ref (qb 0)), (2, .int v2_6), (3, .int v3_6), (4, .int v4_6), (5, .int v5_6), (6, .int v6_6)] → F = pX6_hearClick_L6 n_6 v2_6 v3_6 v4_6 v5_6 v6_6 t_6 b_6 → kX6_hearClick_L6 n_6 v2_6 v3_6 v4_6 v5_6 v6_6 t_6 b_6 → W p l e rX6_hearClick s mi ([.ref (qe 0), .ref (qb 0), .int a2, .int a3, .int a4] : List Value).toArray below meth c H locs 0 0 (MQ below (gQi (dC, dI) (fun z9 : TS × BS => ew qe cI z9.1 ++ bw qb cI z9.2) (wA (ew qe cI t ++ bw qb cI b)) (pX6_hearClick t b a2 a3 a4)) ([.ref (qe 0), .ref (qb 0), .int a2, .int a3, .int a4] : List Value).toArray s 0 0 (wA (ew qe cI t ++ bw qb cI b))) (F0 mi 6 ls []) := by
    intro n_6
    induction n_6 with
    | zero =>
      intro v2_6 v3_6 v4_6 v5_6 v6_6 t_6 b_6 H locs hP hS ls hl hf hok
      exact absurd hok (fun h => h)
    | succ n_6 ih_6 =>
      have J_51 : ∀ (v2_51 : Int32) (v3_51 : Int32) (v4_51 : Int32) (v5_51 : Int32) (v6_51 : Int32) (t_51 : TS) (b_51 : BS) (H : Heap) (locs : List Loc), va_P (dC, dI) vwCl (ew qe cI t_51 ++ bw qb cI b_51) H → va_S (wA (ew qe cI t ++ bw qb cI b)) s.heap H locs → ∀ ls : Array Slot, lv_has ls 7 [(0, .ref (qe 0)), (1, .ref (qb 0)), (2, .int v2_51), (3, .int v3_51), (4, .int v4_51), (5, .int v5_51), (6, .int v6_51)] → F = pX6_hearClick_L51 (pX6_hearClick_L6 n_6) v2_51 v3_51 v4_51 v5_51 v6_51 t_51 b_51 → kX6_hearClick_L51 (kX6_hearClick_L6 n_6) v2_51 v3_51 v4_51 v5_51 v6_51 t_51 b_51 → W p l e rX6_hearClick s mi ([.ref (qe 0), .ref (qb 0), .int a2, .int a3, .int a4] : List Value).toArray below meth c H locs 0 0 (MQ below (gQi (dC, dI) (fun z9 : TS × BS => ew qe cI z9.1 ++ bw qb cI z9.2) (wA (ew qe cI t ++ bw qb cI b)) (pX6_hearClick t b a2 a3 a4)) ([.ref (qe 0), .ref (qb 0), .int a2, .int a3, .int a4] : List Value).toArray s 0 0 (wA (ew qe cI t ++ bw qb cI b))) (F0 mi 51 ls []) := by
        intro v2_51 v3_51 v4_51 v5_51 v6_51 t_51 b_51 H locs hP hS ls hl hf hok
        obtain ⟨x11, ex11⟩ : ∃ y : Int32, y = v6_51 + 1 := ⟨_, rfl⟩
        refine lv_iinc (v := x11) (lv' := [(6, .int x11), (0, .ref (qe 0)), (1, .ref (qb 0)), (2, .int v2_51), (3, .int v3_51), (4, .int v4_51), (5, .int v5_51)]) hx hb dX6_hearClick_51 hl (k := 6) rfl (by rw [ex11]; rfl) (by decide) rfl (fun ls hl => ?_)
        have hf := lt_eq ex11 hf
        have hok := lt_ok ex11 hok
        refine lv_goto (tgt := 6) hx hb dX6_hearClick_54 (by decide) ?_
        exact ih_6 v2_51 v3_51 v4_51 v5_51 x11 t_51 b_51 _ _ hP hS _ (lv_sub hl [1, 2, 3, 4, 5, 6, 0] rfl) hf hok
      intro v2_6 v3_6 v4_6 v5_6 v6_6 t_6 b_6 H locs hP hS ls hl hf hok
      have hf : F = bX6_hearClick_L6 (pX6_hearClick_L6 n_6) v2_6 v3_6 v4_6 v5_6 v6_6 t_6 b_6 := hf
      have hok : kbX6_hearClick_L6 (kX6_hearClick_L6 n_6) v2_6 v3_6 v4_6 v5_6 v6_6 t_6 b_6 := hok
      refine lv_iload hx hb dX6_hearClick_6 (lv_at hl 6 rfl) ?_
      refine lv_aload_n hx hb dX6_hearClick_8 rfl (lv_at hl 1 rfl) ?_
      refine va_get (D := (dC, dI)) (ci := 1) (v := .ref (qb 1)) (C := RX2) (T := TX2) (N := 8) hx hb hts hin2 hown hK hP 4 rfl rfl 4 (by decide) fl18 (fun _ h9 => h9) rfl dX6_hearClick_9 ?_
      refine va_get (D := (dC, dI)) (ci := 6) (v := .int (b_6.1 4)) (C := RX9) (T := TX9) (N := 4) hx hb hts hin9 hown hK hP 5 rfl rfl 3 (by decide) fl24 (fun _ h9 => h9) rfl dX6_hearClick_12 ?_
      refine lv_icmp_ge (tgt := 57) hx hb dX6_hearClick_15 (by decide) (fun c1 => ?_) (fun c1 => ?_)
      · have hf := it_eq c1 hf
        refine lv_aload_n hx hb dX6_hearClick_57 rfl (lv_at hl 1 rfl) ?_
        refine lv_dup hx hb dX6_hearClick_58 rfl ?_
        refine va_get (D := (dC, dI)) (ci := 1) (v := .int (b_6.1 2)) (C := RX2) (T := TX2) (N := 8) hx hb hts hin2 hown hK hP 4 rfl rfl 2 (by decide) fl42 (fun _ h9 => h9) rfl dX6_hearClick_59 ?_
        refine lv_iconst (v := 1) hx hb dX6_hearClick_62 (by decide) ?_
        refine lv_iadd hx hb dX6_hearClick_63 ?_
        refine va_put (D := (dC, dI)) (ci := 1) (v := .int ((b_6.1 2) + 1)) (ty := .int) (C := RX2) (T := TX2) (N := 8) hx hb hts hin2 tyX2 tyX2_ok nmX2 hown hK hP (gD_va hD rfl) hS 4 rfl rfl 2 (by decide) fl42 (fun _ h9 => h9) rfl (by decide +kernel) rfl rfl (Nat.le_of_ble_eq_true rfl) dX6_hearClick_64 (fun H locs hP _ hS => ?_)
        obtain ⟨b_2, eb_2⟩ : ∃ z9 : BS, z9 = bsi b_6 2 ((b_6.1 2) + 1) := ⟨_, rfl⟩
        have hP : va_P (dC, dI) vwCl (ew qe cI t_6 ++ bw qb cI b_2) H := by rw [eb_2]; exact hP
        have hf := lt_eq eb_2 hf
        refine lv_iload hx hb dX6_hearClick_67 (lv_at hl 5 rfl) ?_
        exact e_mi C0 (hf.symm.trans hF) hP hS dX6_hearClick_69
      · have hf := ie_eq c1 hf
        have hok := ie_ok c1 hok
        refine lv_aload_n hx hb dX6_hearClick_18 rfl (lv_at hl 0 rfl) ?_
        refine va_get (D := (dC, dI)) (ci := 4) (v := .ref (qe 1)) (C := RX6) (T := TX6) (N := 1) hx hb hts hin6 hown hK hP 0 rfl rfl 0 (by decide) fl12 (fun _ h9 => h9) rfl dX6_hearClick_19 ?_
        refine lv_aload_n hx hb dX6_hearClick_22 rfl (lv_at hl 1 rfl) ?_
        refine lv_iload_n hx hb dX6_hearClick_23 rfl (lv_at hl 2 rfl) ?_
        refine lv_iload_n hx hb dX6_hearClick_24 rfl (lv_at hl 3 rfl) ?_
        refine lv_iload hx hb dX6_hearClick_25 (lv_at hl 6 rfl) ?_
        obtain ⟨h3, hok⟩ := hok
        have hPc := hP.sub (ws' := aw (aad (qe 1) (qe 2) (qe 3)) cI t_6 ++ bw qb cI b_6) [1, 2, 3, 4, 5, 6, 7, 8, 9, 10, 11, 12] rfl
        refine gmu_v (va_runV (As := [.ref (qb 0), .int v2_6, .int v3_6, .int v6_6]) (rest := []) ⟨hx, hb, hml, hown, hts⟩ (mX1_collect l dC dI cI cB cO cL (aad (qe 1) (qe 2) (qe 3)) qb t_6 b_6 v2_6 v3_6 v6_6 (gD_subT hD [1, 2, 3, 4, 5, 6, 7, 8, 9, 10, 11, 12] rfl rfl) h3) (cwV 4 hts gX6_hearClick_X1_collect rfl rfl rfl (by decide +kernel) ⟨Nat.le_of_ble_eq_true rfl, Nat.le_of_ble_eq_true rfl⟩) ⟨cP_blind, va_recv hK hPc (ci := 0) (q0 := 0) rfl rfl, cP_ok hPc hK hE⟩ rfl rfl hl.1 rfl (lv_room (Nat.le_of_ble_eq_true rfl)) dX6_hearClick_27 ⟨Nat.zero_le _, Nat.zero_le _⟩) hP (gD_va hD rfl) hS [1, 2, 3, 4, 5, 6, 7, 8, 9, 10, 11, 12] rfl (fun _ => rfl) (fun u5 H locs hw hP hS => ?_)
        have hP : va_P (dC, dI) vwCl (ew qe cI u5.1 ++ bw qb cI u5.2) H := hP
        have hf := lt_eq hw hf
        have hok := lt_ok hw hok
        refine lv_aload_n hx hb dX6_hearClick_30 rfl (lv_at hl 0 rfl) ?_
        refine lv_aload_n hx hb dX6_hearClick_31 rfl (lv_at hl 1 rfl) ?_
        refine lv_iload hx hb dX6_hearClick_32 (lv_at hl 6 rfl) ?_
        refine lv_iload hx hb dX6_hearClick_34 (lv_at hl 4 rfl) ?_
        obtain ⟨h6, hok⟩ := hok
        refine gms_v (va_runV (As := [.ref (qb 0), .int v6_6, .int v4_6]) (rest := []) ⟨hx, hb, hml, hown, hts⟩ (mX6_listen l dC dI cI cB cO cL qe qb u5.1 u5.2 v6_6 v4_6 (gD_any hD) h6) (cwV 3 hts gX6_hearClick_X6_listen rfl rfl rfl (by decide +kernel) ⟨Nat.le_of_ble_eq_true rfl, Nat.le_of_ble_eq_true rfl⟩) ⟨cP_blind, va_recv hK hP (ci := 4) (q0 := 0) rfl rfl, cP_ok hP hK hE⟩ rfl rfl hl.1 rfl (lv_room (Nat.le_of_ble_eq_true rfl)) dX6_hearClick_36 ⟨Nat.zero_le _, Nat.zero_le _⟩) hP (gD_va hD rfl) hS (fun u8 H locs hw hP hS => ?_)
        have hP : va_P (dC, dI) vwCl (ew qe cI u8.1 ++ bw qb cI u8.2) H := hP
        have hf := lt_eq hw hf
        have hok := lt_ok hw hok
        refine lv_aload_n hx hb dX6_hearClick_39 rfl (lv_at hl 1 rfl) ?_
        refine lv_iload hx hb dX6_hearClick_40 (lv_at hl 6 rfl) ?_
        obtain ⟨h9, hok⟩ := hok
        have hPc := hP.sub (ws' := bw qb cI u8.2) [4, 5, 6, 7, 8, 9, 10, 11, 12] rfl
        refine gro_i (va_runV (As := [.int v6_6]) (rest := []) ⟨hx, hb, hml, hown, hts⟩ (mX2_hasNoted l dC dI cI cB cO cL qb u8.2 v6_6  h9) (cwV 1 hts gX6_hearClick_X2_hasNoted rfl rfl rfl (by decide +kernel) ⟨Nat.le_of_ble_eq_true rfl, Nat.le_of_ble_eq_true rfl⟩) ⟨cP_blind, va_recv hK hPc (ci := 1) (q0 := 0) rfl rfl, cP_ok hPc hK hE⟩ rfl rfl hl.1 rfl (lv_room (Nat.le_of_ble_eq_true rfl)) dX6_hearClick_42 ⟨Nat.zero_le _, Nat.zero_le _⟩) ?_
        refine lv_if_eq (tgt := 51) hx hb dX6_hearClick_45 (by decide) (fun c10 => ?_) (fun c10 => ?_)
        · have c10 := bz_f c10
          have hf := ie_eq c10 hf
          have hok := ie_ok c10 hok
          exact J_51 v2_6 v3_6 v4_6 v5_6 v6_6 u8.1 u8.2 _ _ hP hS _ (lv_sub hl [0, 1, 2, 3, 4, 5, 6] rfl) hf hok
        · have c10 := bz_t c10
          have hf := it_eq c10 hf
          have hok := it_ok c10 hok
          obtain ⟨x12, ex12⟩ : ∃ y : Int32, y = v5_6 + 1 := ⟨_, rfl⟩
          refine lv_iinc (v := x12) (lv' := [(5, .int x12), (0, .ref (qe 0)), (1, .ref (qb 0)), (2, .int v2_6), (3, .int v3_6), (4, .int v4_6), (6, .int v6_6)]) hx hb dX6_hearClick_48 hl (k := 5) rfl (by rw [ex12]; rfl) (by decide) rfl (fun ls hl => ?_)
          have hf := lt_eq ex12 hf
          have hok := lt_ok ex12 hok
          exact J_51 v2_6 v3_6 v4_6 x12 v6_6 u8.1 u8.2 _ _ hP hS _ (lv_sub hl [1, 2, 3, 4, 5, 0, 6] rfl) hf hok
  refine lv_iconst (v := 0) hx hb dX6_hearClick_0 (by decide) ?_
  refine lv_istore (lv' := [(5, .int 0), (0, .ref (qe 0)), (1, .ref (qb 0)), (2, .int a2), (3, .int a3), (4, .int a4)]) hx hb dX6_hearClick_1 hl (by decide) rfl (fun ls hl => ?_)
  refine lv_iconst (v := 0) hx hb dX6_hearClick_3 (by decide) ?_
  refine lv_istore (lv' := [(6, .int 0), (5, .int 0), (0, .ref (qe 0)), (1, .ref (qb 0)), (2, .int a2), (3, .int a3), (4, .int a4)]) hx hb dX6_hearClick_4 hl (by decide) rfl (fun ls hl => ?_)
  exact J_6 fu a2 a3 a4 0 0 t b _ _ hP hS _ (lv_sub hl [2, 3, 4, 5, 6, 1, 0] rfl) hf hok
