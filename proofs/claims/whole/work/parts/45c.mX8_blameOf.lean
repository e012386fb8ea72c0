noncomputable def pX8_blameOf_L107  (q_34 : Int32 → Int32 → Int32 → Int32 → SS → BS → (Int32 × SS × BS)) (q_49 : Int32 → Int32 → Int32 → Int32 → Int32 → SS → BS → (Int32 × SS × BS)) (v2_107 : Int32) (v3_107 : Int32) (v4_107 : Int32) (v5_107 : Int32) (v6_107 : Int32) (s9_107 : SS) (b_107 : BS) : Int32 × SS × BS := lt (v6_107 + 1) fun (x13 : Int32) => q_49 v2_107 v3_107 v4_107 v5_107 x13 s9_107 b_107
def kX8_blameOf_L107  (Q_34 : Int32 → Int32 → Int32 → Int32 → SS → BS → Prop) (Q_49 : Int32 → Int32 → Int32 → Int32 → Int32 → SS → BS → Prop) (v2_107 : Int32) (v3_107 : Int32) (v4_107 : Int32) (v5_107 : Int32) (v6_107 : Int32) (s9_107 : SS) (b_107 : BS) : Prop := lt (v6_107 + 1) fun (x13 : Int32) => Q_49 v2_107 v3_107 v4_107 v5_107 x13 s9_107 b_107
noncomputable def pX8_blameOf_L85  (q_34 : Int32 → Int32 → Int32 → Int32 → SS → BS → (Int32 × SS × BS)) (q_49 : Int32 → Int32 → Int32 → Int32 → Int32 → SS → BS → (Int32 × SS × BS)) (v2_85 : Int32) (v3_85 : Int32) (v4_85 : Int32) (v5_85 : Int32) (v6_85 : Int32) (t0_85 : Bool) (s9_85 : SS) (b_85 : BS) : Int32 × SS × BS := if t0_85 = true then (if (pX8_gapOf s9_85 v5_85 v6_85) ≤ v3_85 then (pX8_blameOf_L107 q_34 q_49 v2_85 v3_85 v4_85 v5_85 v6_85 s9_85 b_85) else (lt (v4_85 + 1) fun (x16 : Int32) => pX8_blameOf_L107 q_34 q_49 v2_85 v3_85 x16 v5_85 v6_85 s9_85 b_85)) else (pX8_blameOf_L107 q_34 q_49 v2_85 v3_85 v4_85 v5_85 v6_85 s9_85 b_85)
def kX8_blameOf_L85  (Q_34 : Int32 → Int32 → Int32 → Int32 → SS → BS → Prop) (Q_49 : Int32 → Int32 → Int32 → Int32 → Int32 → SS → BS → Prop) (v2_85 : Int32) (v3_85 : Int32) (v4_85 : Int32) (v5_85 : Int32) (v6_85 : Int32) (t0_85 : Bool) (s9_85 : SS) (b_85 : BS) : Prop := if t0_85 = true then ((kX8_gapOf s9_85 v5_85 v6_85) ∧ (if (pX8_gapOf s9_85 v5_85 v6_85) ≤ v3_85 then (kX8_blameOf_L107 Q_34 Q_49 v2_85 v3_85 v4_85 v5_85 v6_85 s9_85 b_85) else (lt (v4_85 + 1) fun (x16 : Int32) => kX8_blameOf_L107 Q_34 Q_49 v2_85 v3_85 x16 v5_85 v6_85 s9_85 b_85))) else (kX8_blameOf_L107 Q_34 Q_49 v2_85 v3_85 v4_85 v5_85 v6_85 s9_85 b_85)
noncomputable def pX8_blameOf_L80  (q_34 : Int32 → Int32 → Int32 → Int32 → SS → BS → (Int32 × SS × BS)) (q_49 : Int32 → Int32 → Int32 → Int32 → Int32 → SS → BS → (Int32 × SS × BS)) (v2_80 : Int32) (v3_80 : Int32) (v4_80 : Int32) (v5_80 : Int32) (v6_80 : Int32) (s9_80 : SS) (b_80 : BS) : Int32 × SS × BS := pX8_blameOf_L85 q_34 q_49 v2_80 v3_80 v4_80 v5_80 v6_80 true s9_80 b_80
def kX8_blameOf_L80  (Q_34 : Int32 → Int32 → Int32 → Int32 → SS → BS → Prop) (Q_49 : Int32 → Int32 → Int32 → Int32 → Int32 → SS → BS → Prop) (v2_80 : Int32) (v3_80 : Int32) (v4_80 : Int32) (v5_80 : Int32) (v6_80 : Int32) (s9_80 : SS) (b_80 : BS) : Prop := kX8_blameOf_L85 Q_34 Q_49 v2_80 v3_80 v4_80 v5_80 v6_80 true s9_80 b_80
noncomputable def bX8_blameOf_L49  (q_34 : Int32 → Int32 → Int32 → Int32 → SS → BS → (Int32 × SS × BS)) (q_49 : Int32 → Int32 → Int32 → Int32 → Int32 → SS → BS → (Int32 × SS × BS)) (v2_49 : Int32) (v3_49 : Int32) (v4_49 : Int32) (v5_49 : Int32) (v6_49 : Int32) (s9_49 : SS) (b_49 : BS) : Int32 × SS × BS := if (s9_49.1 0) ≤ v6_49 then (lt (v5_49 + 1) fun (x10 : Int32) => q_34 v2_49 v3_49 v4_49 x10 s9_49 b_49) else (if ((s9_49.2 2) v5_49.toNatClampNeg) = v2_49 then (pX8_blameOf_L80 q_34 q_49 v2_49 v3_49 v4_49 v5_49 v6_49 s9_49 b_49) else (if ((s9_49.2 2) v6_49.toNatClampNeg) = v2_49 then (pX8_blameOf_L80 q_34 q_49 v2_49 v3_49 v4_49 v5_49 v6_49 s9_49 b_49) else (pX8_blameOf_L85 q_34 q_49 v2_49 v3_49 v4_49 v5_49 v6_49 false s9_49 b_49)))
noncomputable def pX8_blameOf_L49  (q_34 : Int32 → Int32 → Int32 → Int32 → SS → BS → (Int32 × SS × BS)) : Nat → Int32 → Int32 → Int32 → Int32 → Int32 → SS → BS → (Int32 × SS × BS)
  | 0 => fun _ _ _ _ _ s9_49 b_49 => (0, s9_49, b_49)
  | n + 1 => bX8_blameOf_L49  q_34 (pX8_blameOf_L49  q_34 n)
def kbX8_blameOf_L49  (Q_34 : Int32 → Int32 → Int32 → Int32 → SS → BS → Prop) (Q_49 : Int32 → Int32 → Int32 → Int32 → Int32 → SS → BS → Prop) (v2_49 : Int32) (v3_49 : Int32) (v4_49 : Int32) (v5_49 : Int32) (v6_49 : Int32) (s9_49 : SS) (b_49 : BS) : Prop := if (s9_49.1 0) ≤ v6_49 then (lt (v5_49 + 1) fun (x10 : Int32) => Q_34 v2_49 v3_49 v4_49 x10 s9_49 b_49) else ((vp_in v5_49 8) ∧ (if ((s9_49.2 2) v5_49.toNatClampNeg) = v2_49 then (kX8_blameOf_L80 Q_34 Q_49 v2_49 v3_49 v4_49 v5_49 v6_49 s9_49 b_49) else ((vp_in v6_49 8) ∧ (if ((s9_49.2 2) v6_49.toNatClampNeg) = v2_49 then (kX8_blameOf_L80 Q_34 Q_49 v2_49 v3_49 v4_49 v5_49 v6_49 s9_49 b_49) else (kX8_blameOf_L85 Q_34 Q_49 v2_49 v3_49 v4_49 v5_49 v6_49 false s9_49 b_49)))))
noncomputable def kX8_blameOf_L49  (Q_34 : Int32 → Int32 → Int32 → Int32 → SS → BS → Prop) : Nat → Int32 → Int32 → Int32 → Int32 → Int32 → SS → BS → Prop
  | 0 => fun _ _ _ _ _ _ _ => False
  | n + 1 => kbX8_blameOf_L49  Q_34 (kX8_blameOf_L49  Q_34 n)
noncomputable def bX8_blameOf_L34   (q_34 : Int32 → Int32 → Int32 → Int32 → SS → BS → (Int32 × SS × BS)) (v2_34 : Int32) (v3_34 : Int32) (v4_34 : Int32) (v5_34 : Int32) (s9_34 : SS) (b_34 : BS) : Int32 × SS × BS := if (s9_34.1 0) ≤ v5_34 then ((v4_34, s9_34, b_34)) else (lt (v5_34 + 1) fun (x8 : Int32) => pX8_blameOf_L49 q_34 fu v2_34 v3_34 v4_34 v5_34 x8 s9_34 b_34)
noncomputable def pX8_blameOf_L34   : Nat → Int32 → Int32 → Int32 → Int32 → SS → BS → (Int32 × SS × BS)
  | 0 => fun _ _ _ _ s9_34 b_34 => (0, s9_34, b_34)
  | n + 1 => bX8_blameOf_L34   (pX8_blameOf_L34   n)
def kbX8_blameOf_L34   (Q_34 : Int32 → Int32 → Int32 → Int32 → SS → BS → Prop) (v2_34 : Int32) (v3_34 : Int32) (v4_34 : Int32) (v5_34 : Int32) (s9_34 : SS) (b_34 : BS) : Prop := if (s9_34.1 0) ≤ v5_34 then (True) else (lt (v5_34 + 1) fun (x8 : Int32) => kX8_blameOf_L49 Q_34 fu v2_34 v3_34 v4_34 v5_34 x8 s9_34 b_34)
noncomputable def kX8_blameOf_L34   : Nat → Int32 → Int32 → Int32 → Int32 → SS → BS → Prop
  | 0 => fun _ _ _ _ _ _ => False
  | n + 1 => kbX8_blameOf_L34   (kX8_blameOf_L34   n)
noncomputable def pX8_blameOf (s9 : SS) (b : BS) (a2 : Int32) : Int32 × SS × BS := if (s9.1 1) = (-1000000000) then (((-1000000000), s9, b)) else (lt (pX8_traceStarts s9 b (s9.1 1)) fun (u4 : SS × BS) => lt (pX2_setting u4.2 6) fun (x6 : Int32) => pX8_blameOf_L34 fu a2 x6 0 0 u4.1 u4.2)
def kX8_blameOf (s9 : SS) (b : BS) (a2 : Int32) : Prop := if (s9.1 1) = (-1000000000) then (True) else ((kX8_traceStarts s9 b (s9.1 1)) ∧ (lt (pX8_traceStarts s9 b (s9.1 1)) fun (u4 : SS × BS) => (kX2_setting u4.2 6) ∧ (lt (pX2_setting u4.2 6) fun (x6 : Int32) => kX8_blameOf_L34 fu a2 x6 0 0 u4.1 u4.2)))
abbrev rX8_blameOf : Room := { frames := 4, cells := 0, slots := 0, locals := 96 }
set_option maxHeartbeats 4000000 in
set_option maxRecDepth 100000 in
theorem mX8_blameOf (l : Launch) (dC : Nat → ClassId) (dI : Nat → Nat → Nat) (cI cB cO cL : ClassId) (qs : Nat → Nat) (qb : Nat → Nat) (s9 : SS) (b : BS) (a2 : Int32) (hI : gD (fun _ => True) (sAd qs ++ bAd qb)) (hok : kX8_blameOf s9 b a2) : Met l yX8_blameOf wsX8_blameOf rX8_blameOf (cP (dC, dI) (tYS cI cB cO cL) (sw qs cI s9 ++ bw qb cI b) [.ref (qs 0), .ref (qb 0), .int a2]) (gQi (dC, dI) (fun z9 : SS × BS => sw qs cI z9.1 ++ bw qb cI z9.2) (wA (sw qs cI s9 ++ bw qb cI b)) (pX8_blameOf s9 b a2)) 0 0 (wA (sw qs cI s9 ++ bw qb cI b)) := by
  refine cMet (cc := cX8_blameOf) (maxL := 8) (ret := some .int) [(0, .ref (qs 0)), (1, .ref (qb 0)), (2, .int a2)] (by decide) rfl rfl rfl ?_
  intro p e s mi below meth c C0 hK hE hP ls hl
  obtain ⟨hx, hb, hr, hml, hown, hts, hlocks⟩ := id C0
  have hown : s.vm.findClass RX8 = some mi.cls := hown
  have hS : va_S (wA (sw qs cI s9 ++ bw qb cI b)) s.heap s.heap [] := va_S.rf
  have hD : gD (wA (sw qs cI s9 ++ bw qb cI b)) (sAd qs ++ bAd qb) := gD_wA (ws := sw qs cI s9 ++ bw qb cI b) hI
  have hP : va_P (dC, dI) vwCl (sw qs cI s9 ++ bw qb cI b) s.heap := hP
  obtain ⟨F, hF⟩ : ∃ F, F = pX8_blameOf s9 b a2 := ⟨_, rfl⟩
  have hf := hF
  have hin8 : ∀ w ∈ u_ws RX8 TX8 9, w ∈ wsX8_blameOf := by decide +kernel
  have fl29 := hts (.fieldLink RX8 29 "ClickBench$Survey" "best" "I") (by decide +kernel)
  have cn28 := hts (.constant RX8 28 (-1000000000)) (by decide +kernel)
  have fl24 := hts (.fieldLink RX8 24 "ClickBench$Survey" "hearerCount" "I") (by decide +kernel)
  have fl18 := hts (.fieldLink RX8 18 "ClickBench$Survey" "hearers" "[I") (by decide +kernel)
  have J_34 : ∀ (n_34 : Nat) (v2_34 : Int32) (v3_34 : Int32) (v4_34 : Int32) (v5_34 : Int32) (s9_34 : SS) (b_34 : BS) (H : Heap) (locs : List Loc), va_P (dC, dI) vwCl (sw qs cI s9_34 ++ bw qb cI b_34) H → va_S (wA (sw qs cI s9 ++ bw qb cI b)) s.heap H locs → ∀ ls : Array Slot, lv_has ls 8 [(0, .ref (qs 0)), (2, .int v2_34), (3, .int v3_34), (4, .int v4_34), (5, .int v5_34)] → F = pX8_blameOf_L34 n_34 v2_34 v3_34 v4_34 v5_34 s9_34 b_34 → kX8_blameOf_L34 n_34 v2_34 v3_34 v4_34 v5_34 s9_34 b_34 → W p l e rX8_blameOf s mi ([.ref (qs 0), .ref (qb 0), .int a2] : List Value).toArray below meth c H locs 0 0 (MQ below (gQi (dC, dI) (fun z9 : SS × BS => sw qs cI z9.1 ++ bw qb cI z9.2) (wA (sw qs cI s9 ++ bw qb cI b)) (pX8_blameOf s9 b a2)) ([.ref (qs 0), .ref (qb 0), .int a2] : List Value).toArray s 0 0 (wA (sw qs cI s9 ++ bw qb cI b))) (F0 mi 34 ls []) := by
    intro n_34
    induction n_34 with
    | zero =>
      intro v2_34 v3_34 v4_34 v5_34 s9_34 b_34 H locs hP hS ls hl hf hok
      exact absurd hok (fun h => h)
    | succ n_34 ih_34 =>
      have J_49 : ∀ (n_49 : Nat) (v2_49 : Int32) (v3_49 : Int32) (v4_49 : Int32) (v5_49 : Int32) (v6_49 : Int32) (s9_49 : SS) (b_49 : BS) (H : Heap) (locs : List Loc), va_P (dC, dI) vwCl (sw qs cI s9_49 ++ bw qb cI b_49) H → va_S (wA (sw qs cI s9 ++ bw qb cI b)) s.heap H locs → ∀ ls : Array Slot, lv_has ls 8 [(0, .ref (qs 0)), (2, .int v2_49), (3, .int v3_49), (4, .int v4_49), (5, .int v5_49), (6, .int v6_49)] → F = pX8_blameOf_L49 (pX8_blameOf_L34 n_34) n_49 v2_49 v3_49 v4_49 v5_49 v6_49 s9_49 b_49 → kX8_blameOf_L49 (kX8_blameOf_L34 n_34) n_49 v2_49 v3_49 v4_49 v5_49 v6_49 s9_49 b_49 → W p l e rX8_blameOf s mi ([.ref (qs 0), .ref (qb 0), .int a2] : List Value).toArray below meth c H locs 0 0 (MQ below (gQi (dC, dI) (fun z9 : SS × BS => sw qs cI z9.1 ++ bw qb cI z9.2) (wA (sw qs cI s9 ++ bw qb cI b)) (pX8_blameOf s9 b a2)) ([.ref (qs 0), .ref (qb 0), .int a2] : List Value).toArray s 0 0 (wA (sw qs cI s9 ++ bw qb cI b))) (F0 mi 49 ls []) := by
        intro n_49
        induction n_49 with
        | zero =>
          intro v2_49 v3_49 v4_49 v5_49 v6_49 s9_49 b_49 H locs hP hS ls hl hf hok
          exact absurd hok (fun h => h)
        | succ n_49 ih_49 =>
          have J_107 : ∀ (v2_107 : Int32) (v3_107 : Int32) (v4_107 : Int32) (v5_107 : Int32) (v6_107 : Int32) (s9_107 : SS) (b_107 : BS) (H : Heap) (locs : List Loc), va_P (dC, dI) vwCl (sw qs cI s9_107 ++ bw qb cI b_107) H → va_S (wA (sw qs cI s9 ++ bw qb cI b)) s.heap H locs → ∀ ls : Array Slot, lv_has ls 8 [(0, .ref (qs 0)), (2, .int v2_107), (3, .int v3_107), (4, .int v4_107), (5, .int v5_107), (6, .int v6_107)] → F = pX8_blameOf_L107 (pX8_blameOf_L34 n_34) (pX8_blameOf_L49 (pX8_blameOf_L34 n_34) n_49) v2_107 v3_107 v4_107 v5_107 v6_107 s9_107 b_107 → kX8_blameOf_L107 (kX8_blameOf_L34 n_34) (kX8_blameOf_L49 (kX8_blameOf_L34 n_34) n_49) v2_107 v3_107 v4_107 v5_107 v6_107 s9_107 b_107 → W p l e rX8_blameOf s mi ([.ref (qs 0), .ref (qb 0), .int a2] : List Value).toArray below meth c H locs 0 0 (MQ below (gQi (dC, dI) (fun z9 : SS × BS => sw qs cI z9.1 ++ bw qb cI z9.2) (wA (sw qs cI s9 ++ bw qb cI b)) (pX8_blameOf s9 b a2)) ([.ref (qs 0), .ref (qb 0), .int a2] : List Value).toArray s 0 0 (wA (sw qs cI s9 ++ bw qb cI b))) (F0 mi 107 ls []) := by
            intro v2_107 v3_107 v4_107 v5_107 v6_107 s9_107 b_107 H locs hP hS ls hl hf hok
            obtain ⟨x13, ex13⟩ : ∃ y : Int32, y = v6_107 + 1 := ⟨_, rfl⟩
            refine lv_iinc (v := x13) (lv' := [(6, .int x13), (0, .ref (qs 0)), (2, .int v2_107), (3, .int v3_107), (4, .int v4_107), (5, .int v5_107)]) hx hb dX8_blameOf_107 hl (k := 5) rfl (by rw [ex13]; rfl) (by decide) rfl (fun ls hl => ?_)
            have hf := lt_eq ex13 hf
            have hok := lt_ok ex13 hok
            refine lv_goto (tgt := 49) hx hb dX8_blameOf_110 (by decide) ?_
            exact ih_49 v2_107 v3_107 v4_107 v5_107 x13 s9_107 b_107 _ _ hP hS _ (lv_sub hl [1, 2, 3, 4, 5, 0] rfl) hf hok
          have J_85 : ∀ (v2_85 : Int32) (v3_85 : Int32) (v4_85 : Int32) (v5_85 : Int32) (v6_85 : Int32) (t0_85 : Bool) (s9_85 : SS) (b_85 : BS) (H : Heap) (locs : List Loc), va_P (dC, dI) vwCl (sw qs cI s9_85 ++ bw qb cI b_85) H → va_S (wA (sw qs cI s9 ++ bw qb cI b)) s.heap H locs → ∀ ls : Array Slot, lv_has ls 8 [(0, .ref (qs 0)), (2, .int v2_85), (3, .int v3_85), (4, .int v4_85), (5, .int v5_85), (6, .int v6_85)] → F = pX8_blameOf_L85 (pX8_blameOf_L34 n_34) (pX8_blameOf_L49 (pX8_blameOf_L34 n_34) n_49) v2_85 v3_85 v4_85 v5_85 v6_85 t0_85 s9_85 b_85 → kX8_blameOf_L85 (kX8_blameOf_L34 n_34) (kX8_blameOf_L49 (kX8_blameOf_L34 n_34) n_49) v2_85 v3_85 v4_85 v5_85 v6_85 t0_85 s9_85 b_85 → W p l e rX8_blameOf s mi ([.ref (qs 0), .ref (qb 0), .int a2] : List Value).toArray below meth c H locs 0 0 (MQ below (gQi (dC, dI) (fun z9 : SS × BS => sw qs cI z9.1 ++ bw qb cI z9.2) (wA (sw qs cI s9 ++ bw qb cI b)) (pX8_blameOf s9 b a2)) ([.ref (qs 0), .ref (qb 0), .int a2] : List Value).toArray s 0 0 (wA (sw qs cI s9 ++ bw qb cI b))) (F0 mi 85 ls [.int (bz t0_85)]) := by
            intro v2_85 v3_85 v4_85 v5_85 v6_85 t0_85 s9_85 b_85 H locs hP hS ls hl hf hok
            refine lv_istore (lv' := [(7, .int (bz t0_85)), (0, .ref (qs 0)), (2, .int v2_85), (3, .int v3_85), (4, .int v4_85), (5, .int v5_85), (6, .int v6_85)]) hx hb dX8_blameOf_85 hl (by decide) rfl (fun ls hl => ?_)
            refine lv_iload hx hb dX8_blameOf_87 (lv_at hl 0 rfl) ?_
            refine lv_if_eq (tgt := 107) hx hb dX8_blameOf_89 (by decide) (fun c12 => ?_) (fun c12 => ?_)
            · have c12 := bz_f c12
              have hf := ie_eq c12 hf
              have hok := ie_ok c12 hok
              exact J_107 v2_85 v3_85 v4_85 v5_85 v6_85 s9_85 b_85 _ _ hP hS _ (lv_sub hl [1, 2, 3, 4, 5, 6] rfl) hf hok
            · have c12 := bz_t c12
              have hf := it_eq c12 hf
              have hok := it_ok c12 hok
              refine lv_aload_n hx hb dX8_blameOf_92 rfl (lv_at hl 1 rfl) ?_
              refine lv_iload hx hb dX8_blameOf_93 (lv_at hl 5 rfl) ?_
              refine lv_iload hx hb dX8_blameOf_95 (lv_at hl 6 rfl) ?_
              obtain ⟨h14, hok⟩ := hok
              have hPc := hP.sub (ws' := sw qs cI s9_85) [0, 1, 2, 3, 4] rfl
              refine gro_i (va_runV (As := [.int v5_85, .int v6_85]) (rest := []) ⟨hx, hb, hml, hown, hts⟩ (mX8_gapOf l dC dI cI cB cO cL qs s9_85 v5_85 v6_85  h14) (cwV 2 hts gX8_blameOf_X8_gapOf rfl rfl rfl (by decide +kernel) ⟨Nat.le_of_ble_eq_true rfl, Nat.le_of_ble_eq_true rfl⟩) ⟨cP_blind, va_recv hK hPc (ci := 5) (q0 := 0) rfl rfl, cP_ok hPc hK hE⟩ rfl rfl hl.1 rfl (lv_room (Nat.le_of_ble_eq_true rfl)) dX8_blameOf_97 ⟨Nat.zero_le _, Nat.zero_le _⟩) ?_
              refine lv_iload_n hx hb dX8_blameOf_100 rfl (lv_at hl 3 rfl) ?_
              refine lv_icmp_le (tgt := 107) hx hb dX8_blameOf_101 (by decide) (fun c15 => ?_) (fun c15 => ?_)
              · have hf := it_eq c15 hf
                have hok := it_ok c15 hok
                exact J_107 v2_85 v3_85 v4_85 v5_85 v6_85 s9_85 b_85 _ _ hP hS _ (lv_sub hl [1, 2, 3, 4, 5, 6] rfl) hf hok
              · have hf := ie_eq c15 hf
                have hok := ie_ok c15 hok
                obtain ⟨x16, ex16⟩ : ∃ y : Int32, y = v4_85 + 1 := ⟨_, rfl⟩
                refine lv_iinc (v := x16) (lv' := [(4, .int x16), (7, .int (bz t0_85)), (0, .ref (qs 0)), (2, .int v2_85), (3, .int v3_85), (5, .int v5_85), (6, .int v6_85)]) hx hb dX8_blameOf_104 hl (k := 4) rfl (by rw [ex16]; rfl) (by decide) rfl (fun ls hl => ?_)
                have hf := lt_eq ex16 hf
                have hok := lt_ok ex16 hok
                exact J_107 v2_85 v3_85 x16 v5_85 v6_85 s9_85 b_85 _ _ hP hS _ (lv_sub hl [2, 3, 4, 0, 5, 6] rfl) hf hok
          have J_80 : ∀ (v2_80 : Int32) (v3_80 : Int32) (v4_80 : Int32) (v5_80 : Int32) (v6_80 : Int32) (s9_80 : SS) (b_80 : BS) (H : Heap) (locs : List Loc), va_P (dC, dI) vwCl (sw qs cI s9_80 ++ bw qb cI b_80) H → va_S (wA (sw qs cI s9 ++ bw qb cI b)) s.heap H locs → ∀ ls : Array Slot, lv_has ls 8 [(0, .ref (qs 0)), (2, .int v2_80), (3, .int v3_80), (4, .int v4_80), (5, .int v5_80), (6, .int v6_80)] → F = pX8_blameOf_L80 (pX8_blameOf_L34 n_34) (pX8_blameOf_L49 (pX8_blameOf_L34 n_34) n_49) v2_80 v3_80 v4_80 v5_80 v6_80 s9_80 b_80 → kX8_blameOf_L80 (kX8_blameOf_L34 n_34) (kX8_blameOf_L49 (kX8_blameOf_L34 n_34) n_49) v2_80 v3_80 v4_80 v5_80 v6_80 s9_80 b_80 → W p l e rX8_blameOf s mi ([.ref (qs 0), .ref (qb 0), .int a2] : List Value).toArray below meth c H locs 0 0 (MQ below (gQi (dC, dI) (fun z9 : SS × BS => sw qs cI z9.1 ++ bw qb cI z9.2) (wA (sw qs cI s9 ++ bw qb cI b)) (pX8_blameOf s9 b a2)) ([.ref (qs 0), .ref (qb 0), .int a2] : List Value).toArray s 0 0 (wA (sw qs cI s9 ++ bw qb cI b))) (F0 mi 80 ls []) := by
            intro v2_80 v3_80 v4_80 v5_80 v6_80 s9_80 b_80 H locs hP hS ls hl hf hok
            refine lv_iconst (v := 1) hx hb dX8_blameOf_80 (by decide) ?_
            refine lv_goto (tgt := 85) hx hb dX8_blameOf_81 (by decide) ?_
            exact J_85 v2_80 v3_80 v4_80 v5_80 v6_80 true s9_80 b_80 _ _ hP hS _ (lv_sub hl [0, 1, 2, 3, 4, 5] rfl) hf hok
          intro v2_49 v3_49 v4_49 v5_49 v6_49 s9_49 b_49 H locs hP hS ls hl hf hok
          have hf : F = bX8_blameOf_L49 (pX8_blameOf_L34 n_34) (pX8_blameOf_L49 (pX8_blameOf_L34 n_34) n_49) v2_49 v3_49 v4_49 v5_49 v6_49 s9_49 b_49 := hf
          have hok : kbX8_blameOf_L49 (kX8_blameOf_L34 n_34) (kX8_blameOf_L49 (kX8_blameOf_L34 n_34) n_49) v2_49 v3_49 v4_49 v5_49 v6_49 s9_49 b_49 := hok
          refine lv_iload hx hb dX8_blameOf_49 (lv_at hl 5 rfl) ?_
          refine lv_aload_n hx hb dX8_blameOf_51 rfl (lv_at hl 0 rfl) ?_
          refine va_get (D := (dC, dI)) (ci := 5) (v := .int (s9_49.1 0)) (C := RX8) (T := TX8) (N := 9) hx hb hts hin8 hown hK hP 0 rfl rfl 4 (by decide) fl24 (fun _ h9 => h9) rfl dX8_blameOf_52 ?_
          refine lv_icmp_ge (tgt := 113) hx hb dX8_blameOf_55 (by decide) (fun c9 => ?_) (fun c9 => ?_)
          · have hf := it_eq c9 hf
            have hok := it_ok c9 hok
            obtain ⟨x10, ex10⟩ : ∃ y : Int32, y = v5_49 + 1 := ⟨_, rfl⟩
            refine lv_iinc (v := x10) (lv' := [(5, .int x10), (0, .ref (qs 0)), (2, .int v2_49), (3, .int v3_49), (4, .int v4_49), (6, .int v6_49)]) hx hb dX8_blameOf_113 hl (k := 4) rfl (by rw [ex10]; rfl) (by decide) rfl (fun ls hl => ?_)
            have hf := lt_eq ex10 hf
            have hok := lt_ok ex10 hok
            refine lv_goto (tgt := 34) hx hb dX8_blameOf_116 (by decide) ?_
            exact ih_34 v2_49 v3_49 v4_49 x10 s9_49 b_49 _ _ hP hS _ (lv_sub hl [1, 2, 3, 4, 0] rfl) hf hok
          · have hf := ie_eq c9 hf
            have hok := ie_ok c9 hok
            refine lv_aload_n hx hb dX8_blameOf_58 rfl (lv_at hl 0 rfl) ?_
            refine va_get (D := (dC, dI)) (ci := 5) (v := .ref (qs 3)) (C := RX8) (T := TX8) (N := 9) hx hb hts hin8 hown hK hP 0 rfl rfl 2 (by decide) fl18 (fun _ h9 => h9) rfl dX8_blameOf_59 ?_
            refine lv_iload hx hb dX8_blameOf_62 (lv_at hl 4 rfl) ?_
            obtain ⟨h19, hok⟩ := hok
            refine va_iald (D := (dC, dI)) (tys := (tYS cI cB cO cL)) hx hb hK hP 3 0 rfl rfl h19 dX8_blameOf_64 ?_
            refine lv_iload_n hx hb dX8_blameOf_65 rfl (lv_at hl 1 rfl) ?_
            refine lv_icmp_eq (tgt := 80) hx hb dX8_blameOf_66 (by decide) (fun c11 => ?_) (fun c11 => ?_)
            · have hf := it_eq c11 hf
              have hok := it_ok c11 hok
              exact J_80 v2_49 v3_49 v4_49 v5_49 v6_49 s9_49 b_49 _ _ hP hS _ (lv_sub hl [0, 1, 2, 3, 4, 5] rfl) hf hok
            · have hf := ie_eq c11 hf
              have hok := ie_ok c11 hok
              refine lv_aload_n hx hb dX8_blameOf_69 rfl (lv_at hl 0 rfl) ?_
              refine va_get (D := (dC, dI)) (ci := 5) (v := .ref (qs 3)) (C := RX8) (T := TX8) (N := 9) hx hb hts hin8 hown hK hP 0 rfl rfl 2 (by decide) fl18 (fun _ h9 => h9) rfl dX8_blameOf_70 ?_
              refine lv_iload hx hb dX8_blameOf_73 (lv_at hl 5 rfl) ?_
              obtain ⟨h18, hok⟩ := hok
              refine va_iald (D := (dC, dI)) (tys := (tYS cI cB cO cL)) hx hb hK hP 3 0 rfl rfl h18 dX8_blameOf_75 ?_
              refine lv_iload_n hx hb dX8_blameOf_76 rfl (lv_at hl 1 rfl) ?_
              refine lv_icmp_ne (tgt := 84) hx hb dX8_blameOf_77 (by decide) (fun c17 => ?_) (fun c17 => ?_)
              · have hf := ie_eq c17 hf
                have hok := ie_ok c17 hok
                refine lv_iconst (v := 0) hx hb dX8_blameOf_84 (by decide) ?_
                exact J_85 v2_49 v3_49 v4_49 v5_49 v6_49 false s9_49 b_49 _ _ hP hS _ (lv_sub hl [0, 1, 2, 3, 4, 5] rfl) hf hok
              · have hf := it_eq c17 hf
                have hok := it_ok c17 hok
                exact J_80 v2_49 v3_49 v4_49 v5_49 v6_49 s9_49 b_49 _ _ hP hS _ (lv_sub hl [0, 1, 2, 3, 4, 5] rfl) hf hok
      intro v2_34 v3_34 v4_34 v5_34 s9_34 b_34 H locs hP hS ls hl hf hok
      have hf : F = bX8_blameOf_L34 (pX8_blameOf_L34 n_34) v2_34 v3_34 v4_34 v5_34 s9_34 b_34 := hf
      have hok : kbX8_blameOf_L34 (kX8_blameOf_L34 n_34) v2_34 v3_34 v4_34 v5_34 s9_34 b_34 := hok
      refine lv_iload hx hb dX8_blameOf_34 (lv_at hl 4 rfl) ?_
      refine lv_aload_n hx hb dX8_blameOf_36 rfl (lv_at hl 0 rfl) ?_
      refine va_get (D := (dC, dI)) (ci := 5) (v := .int (s9_34.1 0)) (C := RX8) (T := TX8) (N := 9) hx hb hts hin8 hown hK hP 0 rfl rfl 4 (by decide) fl24 (fun _ h9 => h9) rfl dX8_blameOf_37 ?_
      refine lv_icmp_ge (tgt := 119) hx hb dX8_blameOf_40 (by decide) (fun c7 => ?_) (fun c7 => ?_)
      · have hf := it_eq c7 hf
        refine lv_iload hx hb dX8_blameOf_119 (lv_at hl 3 rfl) ?_
        exact e_mi C0 (hf.symm.trans hF) hP hS dX8_blameOf_121
      · have hf := ie_eq c7 hf
        have hok := ie_ok c7 hok
        refine lv_iload hx hb dX8_blameOf_43 (lv_at hl 4 rfl) ?_
        refine lv_iconst (v := 1) hx hb dX8_blameOf_45 (by decide) ?_
        refine lv_iadd hx hb dX8_blameOf_46 ?_
        refine lv_topi (fun x8 ex8 => ?_)
        have hf := lt_eq ex8 hf
        have hok := lt_ok ex8 hok
        refine lv_istore (lv' := [(6, .int x8), (0, .ref (qs 0)), (2, .int v2_34), (3, .int v3_34), (4, .int v4_34), (5, .int v5_34)]) hx hb dX8_blameOf_47 hl (by decide) rfl (fun ls hl => ?_)
        exact J_49 fu v2_34 v3_34 v4_34 v5_34 x8 s9_34 b_34 _ _ hP hS _ (lv_sub hl [1, 2, 3, 4, 5, 0] rfl) hf hok
  refine lv_aload_n hx hb dX8_blameOf_0 rfl (lv_at hl 0 rfl) ?_
  refine va_get (D := (dC, dI)) (ci := 5) (v := .int (s9.1 1)) (C := RX8) (T := TX8) (N := 9) hx hb hts hin8 hown hK hP 0 rfl rfl 5 (by decide) fl29 (fun _ h9 => h9) rfl dX8_blameOf_1 ?_
  refine lv_ldc (v := (-1000000000)) hx hb hown cn28 dX8_blameOf_4 ?_
  refine lv_icmp_ne (tgt := 12) hx hb dX8_blameOf_6 (by decide) (fun c1 => ?_) (fun c1 => ?_)
  · have hf := ie_eq c1 hf
    have hok := ie_ok c1 hok
    refine lv_aload_n hx hb dX8_blameOf_12 rfl (lv_at hl 0 rfl) ?_
    refine lv_aload_n hx hb dX8_blameOf_13 rfl (lv_at hl 1 rfl) ?_
    refine lv_aload_n hx hb dX8_blameOf_14 rfl (lv_at hl 0 rfl) ?_
    refine va_get (D := (dC, dI)) (ci := 5) (v := .int (s9.1 1)) (C := RX8) (T := TX8) (N := 9) hx hb hts hin8 hown hK hP 0 rfl rfl 5 (by decide) fl29 (fun _ h9 => h9) rfl dX8_blameOf_15 ?_
    obtain ⟨h2, hok⟩ := hok
    refine gms_v (va_runV (As := [.ref (qb 0), .int (s9.1 1)]) (rest := []) ⟨hx, hb, hml, hown, hts⟩ (mX8_traceStarts l dC dI cI cB cO cL qs qb s9 b (s9.1 1) (gD_any hD) h2) (cwV 2 hts gX8_blameOf_X8_traceStarts rfl rfl rfl (by decide +kernel) ⟨Nat.le_of_ble_eq_true rfl, Nat.le_of_ble_eq_true rfl⟩) ⟨cP_blind, va_recv hK hP (ci := 5) (q0 := 0) rfl rfl, cP_ok hP hK hE⟩ rfl rfl hl.1 rfl (lv_room (Nat.le_of_ble_eq_true rfl)) dX8_blameOf_18 ⟨Nat.zero_le _, Nat.zero_le _⟩) hP (gD_va hD rfl) hS (fun u4 H locs hw hP hS => ?_)
    have hP : va_P (dC, dI) vwCl (sw qs cI u4.1 ++ bw qb cI u4.2) H := hP
    have hf := lt_eq hw hf
    have hok := lt_ok hw hok
    refine lv_aload_n hx hb dX8_blameOf_21 rfl (lv_at hl 1 rfl) ?_
    refine lv_bipush (v := 6) hx hb dX8_blameOf_22 (by decide) ?_
    obtain ⟨h5, hok⟩ := hok
    have hPc := hP.sub (ws' := bw qb cI u4.2) [5, 6, 7, 8, 9, 10, 11, 12, 13] rfl
    refine gro_i (va_runV (As := [.int 6]) (rest := []) ⟨hx, hb, hml, hown, hts⟩ (mX2_setting l dC dI cI cB cO cL qb u4.2 6  h5) (cwV 1 hts gX8_blameOf_X2_setting rfl rfl rfl (by decide +kernel) ⟨Nat.le_of_ble_eq_true rfl, Nat.le_of_ble_eq_true rfl⟩) ⟨cP_blind, va_recv hK hPc (ci := 1) (q0 := 0) rfl rfl, cP_ok hPc hK hE⟩ rfl rfl hl.1 rfl (lv_room (Nat.le_of_ble_eq_true rfl)) dX8_blameOf_24 ⟨Nat.zero_le _, Nat.zero_le _⟩) ?_
    refine lv_topi (fun x6 ex6 => ?_)
    have hf := lt_eq ex6 hf
    have hok := lt_ok ex6 hok
    refine lv_istore_n (lv' := [(3, .int x6), (0, .ref (qs 0)), (1, .ref (qb 0)), (2, .int a2)]) hx hb dX8_blameOf_27 rfl hl (by decide) rfl (fun ls hl => ?_)
    refine lv_iconst (v := 0) hx hb dX8_blameOf_28 (by decide) ?_
    refine lv_istore (lv' := [(4, .int 0), (3, .int x6), (0, .ref (qs 0)), (1, .ref (qb 0)), (2, .int a2)]) hx hb dX8_blameOf_29 hl (by decide) rfl (fun ls hl => ?_)
    refine lv_iconst (v := 0) hx hb dX8_blameOf_31 (by decide) ?_
    refine lv_istore (lv' := [(5, .int 0), (4, .int 0), (3, .int x6), (0, .ref (qs 0)), (1, .ref (qb 0)), (2, .int a2)]) hx hb dX8_blameOf_32 hl (by decide) rfl (fun ls hl => ?_)
    exact J_34 fu a2 x6 0 0 u4.1 u4.2 _ _ hP hS _ (lv_sub hl [3, 5, 2, 1, 0] rfl) hf hok
  · have hf := it_eq c1 hf
    refine lv_ldc (v := (-1000000000)) hx hb hown cn28 dX8_blameOf_9 ?_
    exact e_mi C0 (hf.symm.trans hF) hP hS dX8_blameOf_11
