noncomputable def pX8_mostBlamed_L41  (q_8 : Int32 → Int32 → Int32 → SS → BS → (Int32 × SS × BS)) (v2_41 : Int32) (v3_41 : Int32) (v4_41 : Int32) (s9_41 : SS) (b_41 : BS) : Int32 × SS × BS := lt (v4_41 + 1) fun (x6 : Int32) => q_8 v2_41 v3_41 x6 s9_41 b_41
def kX8_mostBlamed_L41  (Q_8 : Int32 → Int32 → Int32 → SS → BS → Prop) (v2_41 : Int32) (v3_41 : Int32) (v4_41 : Int32) (s9_41 : SS) (b_41 : BS) : Prop := lt (v4_41 + 1) fun (x6 : Int32) => Q_8 v2_41 v3_41 x6 s9_41 b_41
noncomputable def bX8_mostBlamed_L8   (q_8 : Int32 → Int32 → Int32 → SS → BS → (Int32 × SS × BS)) (v2_8 : Int32) (v3_8 : Int32) (v4_8 : Int32) (s9_8 : SS) (b_8 : BS) : Int32 × SS × BS := if (b_8.1 4) ≤ v4_8 then ((v2_8, s9_8, b_8)) else (bd (pX8_blameOf s9_8 b_8 v4_8) fun (r3 : Int32) (u4 : SS × BS) => if r3 ≤ v3_8 then (pX8_mostBlamed_L41 q_8 v2_8 v3_8 v4_8 u4.1 u4.2) else (pX8_mostBlamed_L41 q_8 v4_8 r3 v4_8 u4.1 u4.2))
noncomputable def pX8_mostBlamed_L8   : Nat → Int32 → Int32 → Int32 → SS → BS → (Int32 × SS × BS)
  | 0 => fun _ _ _ s9_8 b_8 => (0, s9_8, b_8)
  | n + 1 => bX8_mostBlamed_L8   (pX8_mostBlamed_L8   n)
def kbX8_mostBlamed_L8   (Q_8 : Int32 → Int32 → Int32 → SS → BS → Prop) (v2_8 : Int32) (v3_8 : Int32) (v4_8 : Int32) (s9_8 : SS) (b_8 : BS) : Prop := if (b_8.1 4) ≤ v4_8 then (True) else ((kX8_blameOf s9_8 b_8 v4_8) ∧ (bd (pX8_blameOf s9_8 b_8 v4_8) fun (r3 : Int32) (u4 : SS × BS) => if r3 ≤ v3_8 then (kX8_mostBlamed_L41 Q_8 v2_8 v3_8 v4_8 u4.1 u4.2) else (kX8_mostBlamed_L41 Q_8 v4_8 r3 v4_8 u4.1 u4.2)))
noncomputable def kX8_mostBlamed_L8   : Nat → Int32 → Int32 → Int32 → SS → BS → Prop
  | 0 => fun _ _ _ _ _ => False
  | n + 1 => kbX8_mostBlamed_L8   (kX8_mostBlamed_L8   n)
noncomputable def pX8_mostBlamed (s9 : SS) (b : BS) : Int32 × SS × BS := pX8_mostBlamed_L8 fu (-1000000000) 0 0 s9 b
def kX8_mostBlamed (s9 : SS) (b : BS) : Prop := kX8_mostBlamed_L8 fu (-1000000000) 0 0 s9 b
abbrev rX8_mostBlamed : Room := { frames := 5, cells := 0, slots := 0, locals := 123 }
set_option maxHeartbeats 4000000 in
set_option maxRecDepth 100000 in
theorem mX8_mostBlamed (l : Launch) (dC : Nat → ClassId) (dI : Nat → Nat → Nat) (cI cB cO cL : ClassId) (qs : Nat → Nat) (qb : Nat → Nat) (s9 : SS) (b : BS) (hI : gD (fun _ => True) (sAd qs ++ bAd qb)) (hok : kX8_mostBlamed s9 b) : Met l yX8_mostBlamed wsX8_mostBlamed rX8_mostBlamed (cP (dC, dI) (tYS cI cB cO cL) (sw qs cI s9 ++ bw qb cI b) [.ref (qs 0), .ref (qb 0)]) (gQi (dC, dI) (fun z9 : SS × BS => sw qs cI z9.1 ++ bw qb cI z9.2) (wA (sw qs cI s9 ++ bw qb cI b)) (pX8_mostBlamed s9 b)) 0 0 (wA (sw qs cI s9 ++ bw qb cI b)) := by
  refine cMet (cc := cX8_mostBlamed) (maxL := 6) (ret := some .int) [(0, .ref (qs 0)), (1, .ref (qb 0))] (by decide) rfl rfl rfl ?_
  intro p e s mi below meth c C0 hK hE hP ls hl
  obtain ⟨hx, hb, hr, hml, hown, hts, hlocks⟩ := id C0
  have hown : s.vm.findClass RX8 = some mi.cls := hown
  have hS : va_S (wA (sw qs cI s9 ++ bw qb cI b)) s.heap s.heap [] := va_S.rf
  have hD : gD (wA (sw qs cI s9 ++ bw qb cI b)) (sAd qs ++ bAd qb) := gD_wA (ws := sw qs cI s9 ++ bw qb cI b) hI
  have hP : va_P (dC, dI) vwCl (sw qs cI s9 ++ bw qb cI b) s.heap := hP
  obtain ⟨F, hF⟩ : ∃ F, F = pX8_mostBlamed s9 b := ⟨_, rfl⟩
  have hf := hF
  have hin2 : ∀ w ∈ u_ws RX2 TX2 8, w ∈ wsX8_mostBlamed := by decide +kernel
  have hin9 : ∀ w ∈ u_ws RX9 TX9 4, w ∈ wsX8_mostBlamed := by decide +kernel
  have cn28 := hts (.constant RX8 28 (-1000000000)) (by decide +kernel)
  have fl70 := hts (.fieldLink RX8 70 "ClickBench$Bench" "microphones" "LClickBench$Table;") (by decide +kernel)
  have fl74 := hts (.fieldLink RX8 74 "ClickBench$Table" "count" "I") (by decide +kernel)
  have J_8 : ∀ (n_8 : Nat) (v2_8 : Int32) (v3_8 : Int32) (v4_8 : Int32) (s9_8 : SS) (b_8 : BS) (H : Heap) (locs : List Loc), va_P (dC, dI) vwCl (sw qs cI s9_8 ++ bw qb cI b_8) H → va_S (wA (sw qs cI s9 ++ bw qb cI b)) s.heap H locs → ∀ ls : Array Slot, lv_has ls 6 [(0, .ref (qs 0)), (1, .ref (qb 0)), (2, .int v2_8), (3, .int v3_8), (4, .int v4_8)] → F = pX8_mostBlamed_L8 n_8 v2_8 v3_8 v4_8 s9_8 b_8 → kX8_mostBlamed_L8 n_8 v2_8 v3_8 v4_8 s9_8 b_8 → W p l e rX8_mostBlamed s mi ([.ref (qs 0), .ref (qb 0)] : List Value).toArray below meth c H locs 0 0 (MQ below (gQi (dC, dI) (fun z9 : SS × BS => sw qs cI z9.1 ++ bw qb cI z9.2) (wA (sw qs cI s9 ++ bw qb cI b)) (pX8_mostBlamed s9 b)) ([.ref (qs 0), .ref (qb 0)] : List Value).toArray s 0 0 (wA (sw qs cI s9 ++ bw qb cI b))) (F0 mi 8 ls []) := by
    intro n_8
    induction n_8 with
    | zero =>
      intro v2_8 v3_8 v4_8 s9_8 b_8 H locs hP hS ls hl hf hok
      exact absurd hok (fun h => h)
    | succ n_8 ih_8 =>
      have J_41 : ∀ (v2_41 : Int32) (v3_41 : Int32) (v4_41 : Int32) (s9_41 : SS) (b_41 : BS) (H : Heap) (locs : List Loc), va_P (dC, dI) vwCl (sw qs cI s9_41 ++ bw qb cI b_41) H → va_S (wA (sw qs cI s9 ++ bw qb cI b)) s.heap H locs → ∀ ls : Array Slot, lv_has ls 6 [(0, .ref (qs 0)), (1, .ref (qb 0)), (2, .int v2_41), (3, .int v3_41), (4, .int v4_41)] → F = pX8_mostBlamed_L41 (pX8_mostBlamed_L8 n_8) v2_41 v3_41 v4_41 s9_41 b_41 → kX8_mostBlamed_L41 (kX8_mostBlamed_L8 n_8) v2_41 v3_41 v4_41 s9_41 b_41 → W p l e rX8_mostBlamed s mi ([.ref (qs 0), .ref (qb 0)] : List Value).toArray below meth c H locs 0 0 (MQ below (gQi (dC, dI) (fun z9 : SS × BS => sw qs cI z9.1 ++ bw qb cI z9.2) (wA (sw qs cI s9 ++ bw qb cI b)) (pX8_mostBlamed s9 b)) ([.ref (qs 0), .ref (qb 0)] : List Value).toArray s 0 0 (wA (sw qs cI s9 ++ bw qb cI b))) (F0 mi 41 ls []) := by
        intro v2_41 v3_41 v4_41 s9_41 b_41 H locs hP hS ls hl hf hok
        obtain ⟨x6, ex6⟩ : ∃ y : Int32, y = v4_41 + 1 := ⟨_, rfl⟩
        refine lv_iinc (v := x6) (lv' := [(4, .int x6), (0, .ref (qs 0)), (1, .ref (qb 0)), (2, .int v2_41), (3, .int v3_41)]) hx hb dX8_mostBlamed_41 hl (k := 4) rfl (by rw [ex6]; rfl) (by decide) rfl (fun ls hl => ?_)
        have hf := lt_eq ex6 hf
        have hok := lt_ok ex6 hok
        refine lv_goto (tgt := 8) hx hb dX8_mostBlamed_44 (by decide) ?_
        exact ih_8 v2_41 v3_41 x6 s9_41 b_41 _ _ hP hS _ (lv_sub hl [1, 2, 3, 4, 0] rfl) hf hok
      intro v2_8 v3_8 v4_8 s9_8 b_8 H locs hP hS ls hl hf hok
      have hf : F = bX8_mostBlamed_L8 (pX8_mostBlamed_L8 n_8) v2_8 v3_8 v4_8 s9_8 b_8 := hf
      have hok : kbX8_mostBlamed_L8 (kX8_mostBlamed_L8 n_8) v2_8 v3_8 v4_8 s9_8 b_8 := hok
      refine lv_iload hx hb dX8_mostBlamed_8 (lv_at hl 4 rfl) ?_
      refine lv_aload_n hx hb dX8_mostBlamed_10 rfl (lv_at hl 1 rfl) ?_
      refine va_get (D := (dC, dI)) (ci := 1) (v := .ref (qb 1)) (C := RX2) (T := TX2) (N := 8) hx hb hts hin2 hown hK hP 5 rfl rfl 4 (by decide) fl70 (fun _ h9 => h9) rfl dX8_mostBlamed_11 ?_
      refine va_get (D := (dC, dI)) (ci := 6) (v := .int (b_8.1 4)) (C := RX9) (T := TX9) (N := 4) hx hb hts hin9 hown hK hP 6 rfl rfl 3 (by decide) fl74 (fun _ h9 => h9) rfl dX8_mostBlamed_14 ?_
      refine lv_icmp_ge (tgt := 47) hx hb dX8_mostBlamed_17 (by decide) (fun c1 => ?_) (fun c1 => ?_)
      · have hf := it_eq c1 hf
        refine lv_iload_n hx hb dX8_mostBlamed_47 rfl (lv_at hl 2 rfl) ?_
        exact e_mi C0 (hf.symm.trans hF) hP hS dX8_mostBlamed_48
      · have hf := ie_eq c1 hf
        have hok := ie_ok c1 hok
        refine lv_aload_n hx hb dX8_mostBlamed_20 rfl (lv_at hl 0 rfl) ?_
        refine lv_aload_n hx hb dX8_mostBlamed_21 rfl (lv_at hl 1 rfl) ?_
        refine lv_iload hx hb dX8_mostBlamed_22 (lv_at hl 4 rfl) ?_
        obtain ⟨h2, hok⟩ := hok
        refine gms_i (va_runV (As := [.ref (qb 0), .int v4_8]) (rest := []) ⟨hx, hb, hml, hown, hts⟩ (mX8_blameOf l dC dI cI cB cO cL qs qb s9_8 b_8 v4_8 (gD_any hD) h2) (cwV 2 hts gX8_mostBlamed_X8_blameOf rfl rfl rfl (by decide +kernel) ⟨Nat.le_of_ble_eq_true rfl, Nat.le_of_ble_eq_true rfl⟩) ⟨cP_blind, va_recv hK hP (ci := 5) (q0 := 0) rfl rfl, cP_ok hP hK hE⟩ rfl rfl hl.1 rfl (lv_room (Nat.le_of_ble_eq_true rfl)) dX8_mostBlamed_24 ⟨Nat.zero_le _, Nat.zero_le _⟩) hP (gD_va hD rfl) hS (fun r3 u4 H locs hw hP hS => ?_)
        have hP : va_P (dC, dI) vwCl (sw qs cI u4.1 ++ bw qb cI u4.2) H := hP
        have hf := bd_eq hw hf
        have hok := bd_ok hw hok
        refine lv_istore (lv' := [(5, .int r3), (0, .ref (qs 0)), (1, .ref (qb 0)), (2, .int v2_8), (3, .int v3_8), (4, .int v4_8)]) hx hb dX8_mostBlamed_27 hl (by decide) rfl (fun ls hl => ?_)
        refine lv_iload hx hb dX8_mostBlamed_29 (lv_at hl 0 rfl) ?_
        refine lv_iload_n hx hb dX8_mostBlamed_31 rfl (lv_at hl 4 rfl) ?_
        refine lv_icmp_le (tgt := 41) hx hb dX8_mostBlamed_32 (by decide) (fun c5 => ?_) (fun c5 => ?_)
        · have hf := it_eq c5 hf
          have hok := it_ok c5 hok
          exact J_41 v2_8 v3_8 v4_8 u4.1 u4.2 _ _ hP hS _ (lv_sub hl [1, 2, 3, 4, 5] rfl) hf hok
        · have hf := ie_eq c5 hf
          have hok := ie_ok c5 hok
          refine lv_iload hx hb dX8_mostBlamed_35 (lv_at hl 5 rfl) ?_
          refine lv_istore_n (lv' := [(2, .int v4_8), (5, .int r3), (0, .ref (qs 0)), (1, .ref (qb 0)), (3, .int v3_8), (4, .int v4_8)]) hx hb dX8_mostBlamed_37 rfl hl (by decide) rfl (fun ls hl => ?_)
          refine lv_iload hx hb dX8_mostBlamed_38 (lv_at hl 1 rfl) ?_
          refine lv_istore_n (lv' := [(3, .int r3), (2, .int v4_8), (5, .int r3), (0, .ref (qs 0)), (1, .ref (qb 0)), (4, .int v4_8)]) hx hb dX8_mostBlamed_40 rfl hl (by decide) rfl (fun ls hl => ?_)
          exact J_41 v4_8 r3 v4_8 u4.1 u4.2 _ _ hP hS _ (lv_sub hl [3, 4, 1, 0, 5] rfl) hf hok
  refine lv_ldc (v := (-1000000000)) hx hb hown cn28 dX8_mostBlamed_0 ?_
  refine lv_istore_n (lv' := [(2, .int (-1000000000)), (0, .ref (qs 0)), (1, .ref (qb 0))]) hx hb dX8_mostBlamed_2 rfl hl (by decide) rfl (fun ls hl => ?_)
  refine lv_iconst (v := 0) hx hb dX8_mostBlamed_3 (by decide) ?_
  refine lv_istore_n (lv' := [(3, .int 0), (2, .int (-1000000000)), (0, .ref (qs 0)), (1, .ref (qb 0))]) hx hb dX8_mostBlamed_4 rfl hl (by decide) rfl (fun ls hl => ?_)
  refine lv_iconst (v := 0) hx hb dX8_mostBlamed_5 (by decide) ?_
  refine lv_istore (lv' := [(4, .int 0), (3, .int 0), (2, .int (-1000000000)), (0, .ref (qs 0)), (1, .ref (qb 0))]) hx hb dX8_mostBlamed_6 hl (by decide) rfl (fun ls hl => ?_)
  exact J_8 fu (-1000000000) 0 0 s9 b _ _ hP hS _ (lv_sub hl [3, 4, 2, 1, 0] rfl) hf hok
