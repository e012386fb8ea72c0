noncomputable def pX6_hearKnownClick_L133  (q_12 : Int32 → Int32 → Int32 → Int32 → Int32 → TS → BS → (Int32 × TS × BS)) (v2_133 : Int32) (v3_133 : Int32) (v4_133 : Int32) (v6_133 : Int32) (v7_133 : Int32) (t_133 : TS) (b_133 : BS) : Int32 × TS × BS := lt (v7_133 + 1) fun (x18 : Int32) => q_12 v2_133 v3_133 v4_133 v6_133 x18 t_133 b_133
def kX6_hearKnownClick_L133  (Q_12 : Int32 → Int32 → Int32 → Int32 → Int32 → TS → BS → Prop) (v2_133 : Int32) (v3_133 : Int32) (v4_133 : Int32) (v6_133 : Int32) (v7_133 : Int32) (t_133 : TS) (b_133 : BS) : Prop := lt (v7_133 + 1) fun (x18 : Int32) => Q_12 v2_133 v3_133 v4_133 v6_133 x18 t_133 b_133
noncomputable def pX6_hearKnownClick_L117  (q_12 : Int32 → Int32 → Int32 → Int32 → Int32 → TS → BS → (Int32 × TS × BS)) (v2_117 : Int32) (v3_117 : Int32) (v4_117 : Int32) (v6_117 : Int32) (v7_117 : Int32) (v8_117 : Int32) (t_117 : TS) (b_117 : BS) : Int32 × TS × BS := if (pX9_at 8 9 72 (b_117.1 4, b_117.2 0) v7_117 3) = v8_117 then (pX6_hearKnownClick_L133 q_12 v2_117 v3_117 v4_117 v6_117 v7_117 t_117 b_117) else (lt (v6_117 + 1) fun (x19 : Int32) => pX6_hearKnownClick_L133 q_12 v2_117 v3_117 v4_117 x19 v7_117 t_117 b_117)
def kX6_hearKnownClick_L117  (Q_12 : Int32 → Int32 → Int32 → Int32 → Int32 → TS → BS → Prop) (v2_117 : Int32) (v3_117 : Int32) (v4_117 : Int32) (v6_117 : Int32) (v7_117 : Int32) (v8_117 : Int32) (t_117 : TS) (b_117 : BS) : Prop := (kX9_at 8 9 72 (b_117.1 4, b_117.2 0) v7_117 3) ∧ (if (pX9_at 8 9 72 (b_117.1 4, b_117.2 0) v7_117 3) = v8_117 then (kX6_hearKnownClick_L133 Q_12 v2_117 v3_117 v4_117 v6_117 v7_117 t_117 b_117) else (lt (v6_117 + 1) fun (x19 : Int32) => kX6_hearKnownClick_L133 Q_12 v2_117 v3_117 v4_117 x19 v7_117 t_117 b_117))
noncomputable def bX6_hearKnownClick_L12   (q_12 : Int32 → Int32 → Int32 → Int32 → Int32 → TS → BS → (Int32 × TS × BS)) (v2_12 : Int32) (v3_12 : Int32) (v4_12 : Int32) (v6_12 : Int32) (v7_12 : Int32) (t_12 : TS) (b_12 : BS) : Int32 × TS × BS := if (b_12.1 4) ≤ v7_12 then (lt (bsi b_12 2 ((b_12.1 2) + 1)) fun (b_2 : BS) => (v6_12, t_12, b_2)) else (lt (pX9_at 8 9 72 (b_12.1 4, b_12.2 0) v7_12 3) fun (x4 : Int32) => lt (pX9_put 8 9 72 (b_12.1 4, b_12.2 0) v7_12 3 0) fun (u7 : TS) => lt (pX1_collect t_12 (bst b_12 0 u7) v2_12 v3_12 v7_12) fun (u10 : TS × BS) => lt (pX6_listen u10.1 u10.2 v7_12 v4_12) fun (u13 : TS × BS) => if (pX2_hasNoted u13.2 v7_12) = true then (lt (v4_12 + (pX2_timeFor u13.2 (pX2_wayTo u13.2 v7_12 v2_12 v3_12))) fun (x22 : Int32) => lt (pX9_put 8 9 72 (u13.2.1 4, u13.2.2 0) v7_12 3 ((pX9_at 8 9 72 (u13.2.1 4, u13.2.2 0) v7_12 4) - x22)) fun (u26 : TS) => lt (pX9_put 8 9 72 ((bst u13.2 0 u26).1 4, (bst u13.2 0 u26).2 0) v7_12 4 x22) fun (u29 : TS) => pX6_hearKnownClick_L117 q_12 v2_12 v3_12 v4_12 v6_12 v7_12 x4 u13.1 (bst (bst u13.2 0 u26) 0 u29)) else (pX6_hearKnownClick_L117 q_12 v2_12 v3_12 v4_12 v6_12 v7_12 x4 u13.1 u13.2))
noncomputable def pX6_hearKnownClick_L12   : Nat → Int32 → Int32 → Int32 → Int32 → Int32 → TS → BS → (Int32 × TS × BS)
  | 0 => fun _ _ _ _ _ t_12 b_12 => (0, t_12, b_12)
  | n + 1 => bX6_hearKnownClick_L12   (pX6_hearKnownClick_L12   n)
def kbX6_hearKnownClick_L12   (Q_12 : Int32 → Int32 → Int32 → Int32 → Int32 → TS → BS → Prop) (v2_12 : Int32) (v3_12 : Int32) (v4_12 : Int32) (v6_12 : Int32) (v7_12 : Int32) (t_12 : TS) (b_12 : BS) : Prop := if (b_12.1 4) ≤ v7_12 then (True) else ((kX9_at 8 9 72 (b_12.1 4, b_12.2 0) v7_12 3) ∧ (lt (pX9_at 8 9 72 (b_12.1 4, b_12.2 0) v7_12 3) fun (x4 : Int32) => (kX9_put 8 9 72 (b_12.1 4, b_12.2 0) v7_12 3 0) ∧ (lt (pX9_put 8 9 72 (b_12.1 4, b_12.2 0) v7_12 3 0) fun (u7 : TS) => (kX1_collect t_12 (bst b_12 0 u7) v2_12 v3_12 v7_12) ∧ (lt (pX1_collect t_12 (bst b_12 0 u7) v2_12 v3_12 v7_12) fun (u10 : TS × BS) => (kX6_listen u10.1 u10.2 v7_12 v4_12) ∧ (lt (pX6_listen u10.1 u10.2 v7_12 v4_12) fun (u13 : TS × BS) => (kX2_hasNoted u13.2 v7_12) ∧ (if (pX2_hasNoted u13.2 v7_12) = true then ((kX2_wayTo u13.2 v7_12 v2_12 v3_12) ∧ ((kX2_timeFor u13.2 (pX2_wayTo u13.2 v7_12 v2_12 v3_12)) ∧ (lt (v4_12 + (pX2_timeFor u13.2 (pX2_wayTo u13.2 v7_12 v2_12 v3_12))) fun (x22 : Int32) => (kX9_at 8 9 72 (u13.2.1 4, u13.2.2 0) v7_12 4) ∧ ((kX9_put 8 9 72 (u13.2.1 4, u13.2.2 0) v7_12 3 ((pX9_at 8 9 72 (u13.2.1 4, u13.2.2 0) v7_12 4) - x22)) ∧ (lt (pX9_put 8 9 72 (u13.2.1 4, u13.2.2 0) v7_12 3 ((pX9_at 8 9 72 (u13.2.1 4, u13.2.2 0) v7_12 4) - x22)) fun (u26 : TS) => (kX9_put 8 9 72 ((bst u13.2 0 u26).1 4, (bst u13.2 0 u26).2 0) v7_12 4 x22) ∧ (lt (pX9_put 8 9 72 ((bst u13.2 0 u26).1 4, (bst u13.2 0 u26).2 0) v7_12 4 x22) fun (u29 : TS) => kX6_hearKnownClick_L117 Q_12 v2_12 v3_12 v4_12 v6_12 v7_12 x4 u13.1 (bst (bst u13.2 0 u26) 0 u29))))))) else (kX6_hearKnownClick_L117 Q_12 v2_12 v3_12 v4_12 v6_12 v7_12 x4 u13.1 u13.2)))))))
noncomputable def kX6_hearKnownClick_L12   : Nat → Int32 → Int32 → Int32 → Int32 → Int32 → TS → BS → Prop
  | 0 => fun _ _ _ _ _ _ _ => False
  | n + 1 => kbX6_hearKnownClick_L12   (kX6_hearKnownClick_L12   n)
noncomputable def pX6_hearKnownClick (t : TS) (b : BS) (a2 : Int32) (a3 : Int32) (a4 : Int32) : Int32 × TS × BS := pX6_hearKnownClick_L12 fu a2 a3 a4 0 0 t b
def kX6_hearKnownClick (t : TS) (b : BS) (a2 : Int32) (a3 : Int32) (a4 : Int32) : Prop := kX6_hearKnownClick_L12 fu a2 a3 a4 0 0 t b
abbrev rX6_hearKnownClick : Room := { frames := 5, cells := 0, slots := 0, locals := 127 }
set_option maxHeartbeats 4000000 in
set_option maxRecDepth 100000 in
theorem mX6_hearKnownClick (l : Launch) (dC : Nat → ClassId) (dI : Nat → Nat → Nat) (cI cB cO cL : ClassId) (qe : Nat → Nat) (qb : Nat → Nat) (t : TS) (b : BS) (a2 : Int32) (a3 : Int32) (a4 : Int32) (hI : gD (fun _ => True) (eAd qe ++ bAd qb)) (hok : kX6_hearKnownClick t b a2 a3 a4) : Met l yX6_hearKnownClick wsX6_hearKnownClick rX6_hearKnownClick (cP (dC, dI) (tYS cI cB cO cL) (ew qe cI t ++ bw qb cI b) [.ref (qe 0), .ref (qb 0), .int a2, .int a3, .int a4]) (gQi (dC, dI) (fun z9 : TS × BS => ew qe cI z9.1 ++ bw qb cI z9.2) (wA (ew qe cI t ++ bw qb cI b)) (pX6_hearKnownClick t b a2 a3 a4)) 0 0 (wA (ew qe cI t ++ bw qb cI b)) := by
  refine cMet (cc := cX6_hearKnownClick) (maxL := 10) (ret := some .int) [(0, .ref (qe 0)), (1, .ref (qb 0)), (2, .int a2), (3, .int a3), (4, .int a4)] (by decide) rfl rfl rfl ?_
  intro p e s mi below meth c C0 hK hE hP ls hl
  obtain ⟨hx, hb, hr, hml, hown, hts, hlocks⟩ := id C0
  have hown : s.vm.findClass RX6 = some mi.cls := hown
  have hS : va_S (wA (ew qe cI t ++ bw qb cI b)) s.heap s.heap [] := va_S.rf
  have hD : gD (wA (ew qe cI t ++ bw qb cI b)) (eAd qe ++ bAd qb) := gD_wA (ws := ew qe cI t ++ bw qb cI b) hI
  have hP : va_P (dC, dI) vwCl (ew qe cI t ++ bw qb cI b) s.heap := hP
  obtain ⟨F, hF⟩ : ∃ F, F = pX6_hearKnownClick t b a2 a3 a4 := ⟨_, rfl⟩
  have hf := hF
  have hin2 : ∀ w ∈ u_ws RX2 TX2 8, w ∈ wsX6_hearKnownClick := by decide +kernel
  have hin9 : ∀ w ∈ u_ws RX9 TX9 4, w ∈ wsX6_hearKnownClick := by decide +kernel
  have hin6 : ∀ w ∈ u_ws RX6 TX6 1, w ∈ wsX6_hearKnownClick := by decide +kernel
  have fl18 := hts (.fieldLink RX6 18 "ClickBench$Bench" "microphones" "LClickBench$Table;") (by decide +kernel)
  have fl24 := hts (.fieldLink RX6 24 "ClickBench$Table" "count" "I") (by decide +kernel)
  have fl42 := hts (.fieldLink RX6 42 "ClickBench$Bench" "clicks" "I") (by decide +kernel)
  have fl12 := hts (.fieldLink RX6 12 "ClickBench$Ear" "coming" "LClickBench$Arrivals;") (by decide +kernel)
  have J_12 : ∀ (n_12 : Nat) (v2_12 : Int32) (v3_12 : Int32) (v4_12 : Int32) (v6_12 : Int32) (v7_12 : Int32) (t_12 : TS) (b_12 : BS) (H : Heap) (locs : List Loc), va_P (dC, dI) vwCl (ew qe cI t_12 ++ bw qb cI b_12) H → va_S (wA (ew qe cI t ++ bw qb cI b)) s.heap H locs → ∀ ls : Array Slot, lv_has ls 10 [(0, .ref (qe 0)), (1, .ref (qb 0)), (2, .int v2_12), (3, .int v3_12), (4, .int v4_12), (5, .ref (qb 1)), (6, .int v6_12), (7, .int v7_12)] → F = pX6_hearKnownClick_L12 n_12 v2_12 v3_12 v4_12 v6_12 v7_12 t_12 b_12 → kX6_hearKnownClick_L12 n_12 v2_12 v3_12 v4_12 v6_12 v7_12 t_12 b_12 → W p l e rX6_hearKnownClick s mi ([.ref (qe 0), .ref (qb 0), .int a2, .int a3, .int a4] : List Value).toArray below meth c H locs 0 0 (MQ below (gQi (dC, dI) (fun z9 : TS × BS => ew qe cI z9.1 ++ bw qb cI z9.2) (wA (ew qe cI t ++ bw qb cI b)) (pX6_hearKnownClick t b a2 a3 a4)) ([.ref (qe 0), .ref (qb 0), .int a2, .int a3, .int a4] : List Value).toArray s 0 0 (wA (ew qe cI t ++ bw qb cI b))) (F0 mi 12 ls []) := by
    intro n_12
    induction n_12 with
    | zero =>
      intro v2_12 v3_12 v4_12 v6_12 v7_12 t_12 b_12 H locs hP hS ls hl hf hok
      exact absurd hok (fun h => h)
    | succ n_12 ih_12 =>
      have J_133 : ∀ (v2_133 : Int32) (v3_133 : Int32) (v4_133 : Int32) (v6_133 : Int32) (v7_133 : Int32) (t_133 : TS) (b_133 : BS) (H : Heap) (locs : List Loc), va_P (dC, dI) vwCl (ew qe cI t_133 ++ bw qb cI b_133) H → va_S (wA (ew qe cI t ++ bw qb cI b)) s.heap H locs → ∀ ls : Array Slot, lv_has ls 10 [(0, .ref (qe 0)), (1, .ref (qb 0)), (2, .int v2_133), (3, .int v3_133), (4, .int v4_133), (5, .ref (qb 1)), (6, .int v6_133), (7, .int v7_133)] → F = pX6_hearKnownClick_L133 (pX6_hearKnownClick_L12 n_12) v2_133 v3_133 v4_133 v6_133 v7_133 t_133 b_133 → kX6_hearKnownClick_L133 (kX6_hearKnownClick_L12 n_12) v2_133 v3_133 v4_133 v6_133 v7_133 t_133 b_133 → W p l e rX6_hearKnownClick s mi ([.ref (qe 0), .ref (qb 0), .int a2, .int a3, .int a4] : List Value).toArray below meth c H locs 0 0 (MQ below (gQi (dC, dI) (fun z9 : TS × BS => ew qe cI z9.1 ++ bw qb cI z9.2) (wA (ew qe cI t ++ bw qb cI b)) (pX6_hearKnownClick t b a2 a3 a4)) ([.ref (qe 0), .ref (qb 0), .int a2, .int a3, .int a4] : List Value).toArray s 0 0 (wA (ew qe cI t ++ bw qb cI b))) (F0 mi 133 ls []) := by
        intro v2_133 v3_133 v4_133 v6_133 v7_133 t_133 b_133 H locs hP hS ls hl hf hok
        obtain ⟨x18, ex18⟩ : ∃ y : Int32, y = v7_133 + 1 := ⟨_, rfl⟩
        refine lv_iinc (v := x18) (lv' := [(7, .int x18), (0, .ref (qe 0)), (1, .ref (qb 0)), (2, .int v2_133), (3, .int v3_133), (4, .int v4_133), (5, .ref (qb 1)), (6, .int v6_133)]) hx hb dX6_hearKnownClick_133 hl (k := 7) rfl (by rw [ex18]; rfl) (by decide) rfl (fun ls hl => ?_)
        have hf := lt_eq ex18 hf
        have hok := lt_ok ex18 hok
        refine lv_goto (tgt := 12) hx hb dX6_hearKnownClick_136 (by decide) ?_
        exact ih_12 v2_133 v3_133 v4_133 v6_133 x18 t_133 b_133 _ _ hP hS _ (lv_sub hl [1, 2, 3, 4, 5, 6, 7, 0] rfl) hf hok
      have J_117 : ∀ (v2_117 : Int32) (v3_117 : Int32) (v4_117 : Int32) (v6_117 : Int32) (v7_117 : Int32) (v8_117 : Int32) (t_117 : TS) (b_117 : BS) (H : Heap) (locs : List Loc), va_P (dC, dI) vwCl (ew qe cI t_117 ++ bw qb cI b_117) H → va_S (wA (ew qe cI t ++ bw qb cI b)) s.heap H locs → ∀ ls : Array Slot, lv_has ls 10 [(0, .ref (qe 0)), (1, .ref (qb 0)), (2, .int v2_117), (3, .int v3_117), (4, .int v4_117), (5, .ref (qb 1)), (6, .int v6_117), (7, .int v7_117), (8, .int v8_117)] → F = pX6_hearKnownClick_L117 (pX6_hearKnownClick_L12 n_12) v2_117 v3_117 v4_117 v6_117 v7_117 v8_117 t_117 b_117 → kX6_hearKnownClick_L117 (kX6_hearKnownClick_L12 n_12) v2_117 v3_117 v4_117 v6_117 v7_117 v8_117 t_117 b_117 → W p l e rX6_hearKnownClick s mi ([.ref (qe 0), .ref (qb 0), .int a2, .int a3, .int a4] : List Value).toArray below meth c H locs 0 0 (MQ below (gQi (dC, dI) (fun z9 : TS × BS => ew qe cI z9.1 ++ bw qb cI z9.2) (wA (ew qe cI t ++ bw qb cI b)) (pX6_hearKnownClick t b a2 a3 a4)) ([.ref (qe 0), .ref (qb 0), .int a2, .int a3, .int a4] : List Value).toArray s 0 0 (wA (ew qe cI t ++ bw qb cI b))) (F0 mi 117 ls []) := by
        intro v2_117 v3_117 v4_117 v6_117 v7_117 v8_117 t_117 b_117 H locs hP hS ls hl hf hok
        refine lv_aload hx hb dX6_hearKnownClick_117 (lv_at hl 5 rfl) ?_
        refine lv_iload hx hb dX6_hearKnownClick_119 (lv_at hl 7 rfl) ?_
        refine lv_iconst (v := 3) hx hb dX6_hearKnownClick_121 (by decide) ?_
        obtain ⟨h16, hok⟩ := hok
        have hPc := hP.sub (ws' := tw (tad (qb 1) (qb 2)) cI 8 9 72 (b_117.1 4, b_117.2 0)) [5, 6] rfl
        refine gro_i (va_runV (As := [.int v7_117, .int 3]) (rest := []) ⟨hx, hb, hml, hown, hts⟩ (mX9_at l dC dI cI cB cO cL (tad (qb 1) (qb 2)) 8 9 72 (b_117.1 4, b_117.2 0) v7_117 3  h16) (cwV 2 hts gX6_hearKnownClick_X9_at rfl rfl rfl (by decide +kernel) ⟨Nat.le_of_ble_eq_true rfl, Nat.le_of_ble_eq_true rfl⟩) ⟨cP_blind, va_recv hK hPc (ci := 6) (q0 := 0) rfl rfl, cP_ok hPc hK hE⟩ rfl rfl hl.1 rfl (lv_room (Nat.le_of_ble_eq_true rfl)) dX6_hearKnownClick_122 ⟨Nat.zero_le _, Nat.zero_le _⟩) ?_
        refine lv_iload hx hb dX6_hearKnownClick_125 (lv_at hl 8 rfl) ?_
        refine lv_icmp_eq (tgt := 133) hx hb dX6_hearKnownClick_127 (by decide) (fun c17 => ?_) (fun c17 => ?_)
        · have hf := it_eq c17 hf
          have hok := it_ok c17 hok
          exact J_133 v2_117 v3_117 v4_117 v6_117 v7_117 t_117 b_117 _ _ hP hS _ (lv_sub hl [0, 1, 2, 3, 4, 5, 6, 7] rfl) hf hok
        · have hf := ie_eq c17 hf
          have hok := ie_ok c17 hok
          obtain ⟨x19, ex19⟩ : ∃ y : Int32, y = v6_117 + 1 := ⟨_, rfl⟩
          refine lv_iinc (v := x19) (lv' := [(6, .int x19), (0, .ref (qe 0)), (1, .ref (qb 0)), (2, .int v2_117), (3, .int v3_117), (4, .int v4_117), (5, .ref (qb 1)), (7, .int v7_117), (8, .int v8_117)]) hx hb dX6_hearKnownClick_130 hl (k := 6) rfl (by rw [ex19]; rfl) (by decide) rfl (fun ls hl => ?_)
          have hf := lt_eq ex19 hf
          have hok := lt_ok ex19 hok
          exact J_133 v2_117 v3_117 v4_117 x19 v7_117 t_117 b_117 _ _ hP hS _ (lv_sub hl [1, 2, 3, 4, 5, 6, 0, 7] rfl) hf hok
      intro v2_12 v3_12 v4_12 v6_12 v7_12 t_12 b_12 H locs hP hS ls hl hf hok
      have hf : F = bX6_hearKnownClick_L12 (pX6_hearKnownClick_L12 n_12) v2_12 v3_12 v4_12 v6_12 v7_12 t_12 b_12 := hf
      have hok : kbX6_hearKnownClick_L12 (kX6_hearKnownClick_L12 n_12) v2_12 v3_12 v4_12 v6_12 v7_12 t_12 b_12 := hok
      refine lv_iload hx hb dX6_hearKnownClick_12 (lv_at hl 7 rfl) ?_
      refine lv_aload hx hb dX6_hearKnownClick_14 (lv_at hl 5 rfl) ?_
      refine va_get (D := (dC, dI)) (ci := 6) (v := .int (b_12.1 4)) (C := RX9) (T := TX9) (N := 4) hx hb hts hin9 hown hK hP 5 rfl rfl 3 (by decide) fl24 (fun _ h9 => h9) rfl dX6_hearKnownClick_16 ?_
      refine lv_icmp_ge (tgt := 139) hx hb dX6_hearKnownClick_19 (by decide) (fun c1 => ?_) (fun c1 => ?_)
      · have hf := it_eq c1 hf
        refine lv_aload_n hx hb dX6_hearKnownClick_139 rfl (lv_at hl 1 rfl) ?_
        refine lv_dup hx hb dX6_hearKnownClick_140 rfl ?_
        refine va_get (D := (dC, dI)) (ci := 1) (v := .int (b_12.1 2)) (C := RX2) (T := TX2) (N := 8) hx hb hts hin2 hown hK hP 4 rfl rfl 2 (by decide) fl42 (fun _ h9 => h9) rfl dX6_hearKnownClick_141 ?_
        refine lv_iconst (v := 1) hx hb dX6_hearKnownClick_144 (by decide) ?_
        refine lv_iadd hx hb dX6_hearKnownClick_145 ?_
        refine va_put (D := (dC, dI)) (ci := 1) (v := .int ((b_12.1 2) + 1)) (ty := .int) (C := RX2) (T := TX2) (N := 8) hx hb hts hin2 tyX2 tyX2_ok nmX2 hown hK hP (gD_va hD rfl) hS 4 rfl rfl 2 (by decide) fl42 (fun _ h9 => h9) rfl (by decide +kernel) rfl rfl (Nat.le_of_ble_eq_true rfl) dX6_hearKnownClick_146 (fun H locs hP _ hS => ?_)
        obtain ⟨b_2, eb_2⟩ : ∃ z9 : BS, z9 = bsi b_12 2 ((b_12.1 2) + 1) := ⟨_, rfl⟩
        have hP : va_P (dC, dI) vwCl (ew qe cI t_12 ++ bw qb cI b_2) H := by rw [eb_2]; exact hP
        have hf := lt_eq eb_2 hf
        refine lv_iload hx hb dX6_hearKnownClick_149 (lv_at hl 6 rfl) ?_
        exact e_mi C0 (hf.symm.trans hF) hP hS dX6_hearKnownClick_151
      · have hf := ie_eq c1 hf
        have hok := ie_ok c1 hok
        refine lv_aload hx hb dX6_hearKnownClick_22 (lv_at hl 5 rfl) ?_
        refine lv_iload hx hb dX6_hearKnownClick_24 (lv_at hl 7 rfl) ?_
        refine lv_iconst (v := 3) hx hb dX6_hearKnownClick_26 (by decide) ?_
        obtain ⟨h3, hok⟩ := hok
        have hPc := hP.sub (ws' := tw (tad (qb 1) (qb 2)) cI 8 9 72 (b_12.1 4, b_12.2 0)) [5, 6] rfl
        refine gro_i (va_runV (As := [.int v7_12, .int 3]) (rest := []) ⟨hx, hb, hml, hown, hts⟩ (mX9_at l dC dI cI cB cO cL (tad (qb 1) (qb 2)) 8 9 72 (b_12.1 4, b_12.2 0) v7_12 3  h3) (cwV 2 hts gX6_hearKnownClick_X9_at rfl rfl rfl (by decide +kernel) ⟨Nat.le_of_ble_eq_true rfl, Nat.le_of_ble_eq_true rfl⟩) ⟨cP_blind, va_recv hK hPc (ci := 6) (q0 := 0) rfl rfl, cP_ok hPc hK hE⟩ rfl rfl hl.1 rfl (lv_room (Nat.le_of_ble_eq_true rfl)) dX6_hearKnownClick_27 ⟨Nat.zero_le _, Nat.zero_le _⟩) ?_
        refine lv_topi (fun x4 ex4 => ?_)
        have hf := lt_eq ex4 hf
        have hok := lt_ok ex4 hok
        refine lv_istore (lv' := [(8, .int x4), (0, .ref (qe 0)), (1, .ref (qb 0)), (2, .int v2_12), (3, .int v3_12), (4, .int v4_12), (5, .ref (qb 1)), (6, .int v6_12), (7, .int v7_12)]) hx hb dX6_hearKnownClick_30 hl (by decide) rfl (fun ls hl => ?_)
        refine lv_aload hx hb dX6_hearKnownClick_32 (lv_at hl 6 rfl) ?_
        refine lv_iload hx hb dX6_hearKnownClick_34 (lv_at hl 8 rfl) ?_
        refine lv_iconst (v := 3) hx hb dX6_hearKnownClick_36 (by decide) ?_
        refine lv_iconst (v := 0) hx hb dX6_hearKnownClick_37 (by decide) ?_
        obtain ⟨h5, hok⟩ := hok
        have hPc := hP.sub (ws' := tw (tad (qb 1) (qb 2)) cI 8 9 72 (b_12.1 4, b_12.2 0)) [5, 6] rfl
        refine gmu_v (va_runV (As := [.int v7_12, .int 3, .int 0]) (rest := []) ⟨hx, hb, hml, hown, hts⟩ (mX9_put l dC dI cI cB cO cL (tad (qb 1) (qb 2)) 8 9 72 (b_12.1 4, b_12.2 0) v7_12 3 0 (gD_subT hD [5, 6] rfl rfl) h5) (cwV 3 hts gX6_hearKnownClick_X9_put rfl rfl rfl (by decide +kernel) ⟨Nat.le_of_ble_eq_true rfl, Nat.le_of_ble_eq_true rfl⟩) ⟨cP_blind, va_recv hK hPc (ci := 6) (q0 := 0) rfl rfl, cP_ok hPc hK hE⟩ rfl rfl hl.1 rfl (lv_room (Nat.le_of_ble_eq_true rfl)) dX6_hearKnownClick_38 ⟨Nat.zero_le _, Nat.zero_le _⟩) hP (gD_va hD rfl) hS [5, 6] rfl (fun _ => rfl) (fun u7 H locs hw hP hS => ?_)
        have hP : va_P (dC, dI) vwCl (ew qe cI t_12 ++ bw qb cI (bst b_12 0 u7)) H := hP
        have hf := lt_eq hw hf
        have hok := lt_ok hw hok
        refine lv_aload_n hx hb dX6_hearKnownClick_41 rfl (lv_at hl 1 rfl) ?_
        refine va_get (D := (dC, dI)) (ci := 4) (v := .ref (qe 1)) (C := RX6) (T := TX6) (N := 1) hx hb hts hin6 hown hK hP 0 rfl rfl 0 (by decide) fl12 (fun _ h9 => h9) rfl dX6_hearKnownClick_42 ?_
        refine lv_aload_n hx hb dX6_hearKnownClick_45 rfl (lv_at hl 2 rfl) ?_
        refine lv_iload_n hx hb dX6_hearKnownClick_46 rfl (lv_at hl 3 rfl) ?_
        refine lv_iload_n hx hb dX6_hearKnownClick_47 rfl (lv_at hl 4 rfl) ?_
        refine lv_iload hx hb dX6_hearKnownClick_48 (lv_at hl 8 rfl) ?_
        obtain ⟨h8, hok⟩ := hok
        have hPc := hP.sub (ws' := aw (aad (qe 1) (qe 2) (qe 3)) cI t_12 ++ bw qb cI (bst b_12 0 u7)) [1, 2, 3, 4, 5, 6, 7, 8, 9, 10, 11, 12] rfl
        refine gmu_v (va_runV (As := [.ref (qb 0), .int v2_12, .int v3_12, .int v7_12]) (rest := []) ⟨hx, hb, hml, hown, hts⟩ (mX1_collect l dC dI cI cB cO cL (aad (qe 1) (qe 2) (qe 3)) qb t_12 (bst b_12 0 u7) v2_12 v3_12 v7_12 (gD_subT hD [1, 2, 3, 4, 5, 6, 7, 8, 9, 10, 11, 12] rfl rfl) h8) (cwV 4 hts gX6_hearKnownClick_X1_collect rfl rfl rfl (by decide +kernel) ⟨Nat.le_of_ble_eq_true rfl, Nat.le_of_ble_eq_true rfl⟩) ⟨cP_blind, va_recv hK hPc (ci := 0) (q0 := 0) rfl rfl, cP_ok hPc hK hE⟩ rfl rfl hl.1 rfl (lv_room (Nat.le_of_ble_eq_true rfl)) dX6_hearKnownClick_50 ⟨Nat.zero_le _, Nat.zero_le _⟩) hP (gD_va hD rfl) hS [1, 2, 3, 4, 5, 6, 7, 8, 9, 10, 11, 12] rfl (fun _ => rfl) (fun u10 H locs hw hP hS => ?_)
        have hP : va_P (dC, dI) vwCl (ew qe cI u10.1 ++ bw qb cI u10.2) H := hP
        have hf := lt_eq hw hf
        have hok := lt_ok hw hok
        refine lv_aload_n hx hb dX6_hearKnownClick_53 rfl (lv_at hl 1 rfl) ?_
        refine lv_aload_n hx hb dX6_hearKnownClick_54 rfl (lv_at hl 2 rfl) ?_
        refine lv_iload hx hb dX6_hearKnownClick_55 (lv_at hl 8 rfl) ?_
        refine lv_iload hx hb dX6_hearKnownClick_57 (lv_at hl 5 rfl) ?_
        obtain ⟨h11, hok⟩ := hok
        refine gms_v (va_runV (As := [.ref (qb 0), .int v7_12, .int v4_12]) (rest := []) ⟨hx, hb, hml, hown, hts⟩ (mX6_listen l dC dI cI cB cO cL qe qb u10.1 u10.2 v7_12 v4_12 (gD_any hD) h11) (cwV 3 hts gX6_hearKnownClick_X6_listen rfl rfl rfl (by decide +kernel) ⟨Nat.le_of_ble_eq_true rfl, Nat.le_of_ble_eq_true rfl⟩) ⟨cP_blind, va_recv hK hP (ci := 4) (q0 := 0) rfl rfl, cP_ok hP hK hE⟩ rfl rfl hl.1 rfl (lv_room (Nat.le_of_ble_eq_true rfl)) dX6_hearKnownClick_59 ⟨Nat.zero_le _, Nat.zero_le _⟩) hP (gD_va hD rfl) hS (fun u13 H locs hw hP hS => ?_)
        have hP : va_P (dC, dI) vwCl (ew qe cI u13.1 ++ bw qb cI u13.2) H := hP
        have hf := lt_eq hw hf
        have hok := lt_ok hw hok
        refine lv_aload_n hx hb dX6_hearKnownClick_62 rfl (lv_at hl 2 rfl) ?_
        refine lv_iload hx hb dX6_hearKnownClick_63 (lv_at hl 8 rfl) ?_
        obtain ⟨h14, hok⟩ := hok
        have hPc := hP.sub (ws' := bw qb cI u13.2) [4, 5, 6, 7, 8, 9, 10, 11, 12] rfl
        refine gro_i (va_runV (As := [.int v7_12]) (rest := []) ⟨hx, hb, hml, hown, hts⟩ (mX2_hasNoted l dC dI cI cB cO cL qb u13.2 v7_12  h14) (cwV 1 hts gX6_hearKnownClick_X2_hasNoted rfl rfl rfl (by decide +kernel) ⟨Nat.le_of_ble_eq_true rfl, Nat.le_of_ble_eq_true rfl⟩) ⟨cP_blind, va_recv hK hPc (ci := 1) (q0 := 0) rfl rfl, cP_ok hPc hK hE⟩ rfl rfl hl.1 rfl (lv_room (Nat.le_of_ble_eq_true rfl)) dX6_hearKnownClick_65 ⟨Nat.zero_le _, Nat.zero_le _⟩) ?_
        refine lv_if_eq (tgt := 117) hx hb dX6_hearKnownClick_68 (by decide) (fun c15 => ?_) (fun c15 => ?_)
        · have c15 := bz_f c15
          have hf := ie_eq c15 hf
          have hok := ie_ok c15 hok
          exact J_117 v2_12 v3_12 v4_12 v6_12 v7_12 x4 u13.1 u13.2 _ _ hP hS _ (lv_sub hl [1, 2, 3, 4, 5, 6, 7, 8, 0] rfl) hf hok
        · have c15 := bz_t c15
          have hf := it_eq c15 hf
          have hok := it_ok c15 hok
          refine lv_iload hx hb dX6_hearKnownClick_71 (lv_at hl 5 rfl) ?_
          refine lv_aload_n hx hb dX6_hearKnownClick_73 rfl (lv_at hl 2 rfl) ?_
          refine lv_aload_n hx hb dX6_hearKnownClick_74 rfl (lv_at hl 2 rfl) ?_
          refine lv_iload hx hb dX6_hearKnownClick_75 (lv_at hl 8 rfl) ?_
          refine lv_iload_n hx hb dX6_hearKnownClick_77 rfl (lv_at hl 3 rfl) ?_
          refine lv_iload_n hx hb dX6_hearKnownClick_78 rfl (lv_at hl 4 rfl) ?_
          obtain ⟨h20, hok⟩ := hok
          have hPc := hP.sub (ws' := bw qb cI u13.2) [4, 5, 6, 7, 8, 9, 10, 11, 12] rfl
          refine gro_i (va_runV (As := [.int v7_12, .int v2_12, .int v3_12]) (rest := [.ref (qb 0), .int v4_12]) ⟨hx, hb, hml, hown, hts⟩ (mX2_wayTo l dC dI cI cB cO cL qb u13.2 v7_12 v2_12 v3_12  h20) (cwV 3 hts gX6_hearKnownClick_X2_wayTo rfl rfl rfl (by decide +kernel) ⟨Nat.le_of_ble_eq_true rfl, Nat.le_of_ble_eq_true rfl⟩) ⟨cP_blind, va_recv hK hPc (ci := 1) (q0 := 0) rfl rfl, cP_ok hPc hK hE⟩ rfl rfl hl.1 rfl (lv_room (Nat.le_of_ble_eq_true rfl)) dX6_hearKnownClick_79 ⟨Nat.zero_le _, Nat.zero_le _⟩) ?_
          obtain ⟨h21, hok⟩ := hok
          have hPc := hP.sub (ws' := bw qb cI u13.2) [4, 5, 6, 7, 8, 9, 10, 11, 12] rfl
          refine gro_i (va_runV (As := [.int (pX2_wayTo u13.2 v7_12 v2_12 v3_12)]) (rest := [.int v4_12]) ⟨hx, hb, hml, hown, hts⟩ (mX2_timeFor l dC dI cI cB cO cL qb u13.2 (pX2_wayTo u13.2 v7_12 v2_12 v3_12)  h21) (cwV 1 hts gX6_hearKnownClick_X2_timeFor rfl rfl rfl (by decide +kernel) ⟨Nat.le_of_ble_eq_true rfl, Nat.le_of_ble_eq_true rfl⟩) ⟨cP_blind, va_recv hK hPc (ci := 1) (q0 := 0) rfl rfl, cP_ok hPc hK hE⟩ rfl rfl hl.1 rfl (lv_room (Nat.le_of_ble_eq_true rfl)) dX6_hearKnownClick_82 ⟨Nat.zero_le _, Nat.zero_le _⟩) ?_
          refine lv_iadd hx hb dX6_hearKnownClick_85 ?_
          refine lv_topi (fun x22 ex22 => ?_)
          have hf := lt_eq ex22 hf
          have hok := lt_ok ex22 hok
          refine lv_istore (lv' := [(9, .int x22), (8, .int x4), (0, .ref (qe 0)), (1, .ref (qb 0)), (2, .int v2_12), (3, .int v3_12), (4, .int v4_12), (5, .ref (qb 1)), (6, .int v6_12), (7, .int v7_12)]) hx hb dX6_hearKnownClick_86 hl (by decide) rfl (fun ls hl => ?_)
          refine lv_aload hx hb dX6_hearKnownClick_88 (lv_at hl 7 rfl) ?_
          refine lv_iload hx hb dX6_hearKnownClick_90 (lv_at hl 9 rfl) ?_
          refine lv_iconst (v := 3) hx hb dX6_hearKnownClick_92 (by decide) ?_
          refine lv_aload hx hb dX6_hearKnownClick_93 (lv_at hl 7 rfl) ?_
          refine lv_iload hx hb dX6_hearKnownClick_95 (lv_at hl 9 rfl) ?_
          refine lv_iconst (v := 4) hx hb dX6_hearKnownClick_97 (by decide) ?_
          obtain ⟨h23, hok⟩ := hok
          have hPc := hP.sub (ws' := tw (tad (qb 1) (qb 2)) cI 8 9 72 (u13.2.1 4, u13.2.2 0)) [5, 6] rfl
          refine gro_i (va_runV (As := [.int v7_12, .int 4]) (rest := [.int 3, .int v7_12, .ref (qb 1)]) ⟨hx, hb, hml, hown, hts⟩ (mX9_at l dC dI cI cB cO cL (tad (qb 1) (qb 2)) 8 9 72 (u13.2.1 4, u13.2.2 0) v7_12 4  h23) (cwV 2 hts gX6_hearKnownClick_X9_at rfl rfl rfl (by decide +kernel) ⟨Nat.le_of_ble_eq_true rfl, Nat.le_of_ble_eq_true rfl⟩) ⟨cP_blind, va_recv hK hPc (ci := 6) (q0 := 0) rfl rfl, cP_ok hPc hK hE⟩ rfl rfl hl.1 rfl (lv_room (Nat.le_of_ble_eq_true rfl)) dX6_hearKnownClick_98 ⟨Nat.zero_le _, Nat.zero_le _⟩) ?_
          refine lv_iload hx hb dX6_hearKnownClick_101 (lv_at hl 0 rfl) ?_
          refine lv_isub hx hb dX6_hearKnownClick_103 ?_
          obtain ⟨h24, hok⟩ := hok
          have hPc := hP.sub (ws' := tw (tad (qb 1) (qb 2)) cI 8 9 72 (u13.2.1 4, u13.2.2 0)) [5, 6] rfl
          refine gmu_v (va_runV (As := [.int v7_12, .int 3, .int ((pX9_at 8 9 72 (u13.2.1 4, u13.2.2 0) v7_12 4) - x22)]) (rest := []) ⟨hx, hb, hml, hown, hts⟩ (mX9_put l dC dI cI cB cO cL (tad (qb 1) (qb 2)) 8 9 72 (u13.2.1 4, u13.2.2 0) v7_12 3 ((pX9_at 8 9 72 (u13.2.1 4, u13.2.2 0) v7_12 4) - x22) (gD_subT hD [5, 6] rfl rfl) h24) (cwV 3 hts gX6_hearKnownClick_X9_put rfl rfl rfl (by decide +kernel) ⟨Nat.le_of_ble_eq_true rfl, Nat.le_of_ble_eq_true rfl⟩) ⟨cP_blind, va_recv hK hPc (ci := 6) (q0 := 0) rfl rfl, cP_ok hPc hK hE⟩ rfl rfl hl.1 rfl (lv_room (Nat.le_of_ble_eq_true rfl)) dX6_hearKnownClick_104 ⟨Nat.zero_le _, Nat.zero_le _⟩) hP (gD_va hD rfl) hS [5, 6] rfl (fun _ => rfl) (fun u26 H locs hw hP hS => ?_)
          have hP : va_P (dC, dI) vwCl (ew qe cI u13.1 ++ bw qb cI (bst u13.2 0 u26)) H := hP
          have hf := lt_eq hw hf
          have hok := lt_ok hw hok
          refine lv_aload hx hb dX6_hearKnownClick_107 (lv_at hl 7 rfl) ?_
          refine lv_iload hx hb dX6_hearKnownClick_109 (lv_at hl 9 rfl) ?_
          refine lv_iconst (v := 4) hx hb dX6_hearKnownClick_111 (by decide) ?_
          refine lv_iload hx hb dX6_hearKnownClick_112 (lv_at hl 0 rfl) ?_
          obtain ⟨h27, hok⟩ := hok
          have hPc := hP.sub (ws' := tw (tad (qb 1) (qb 2)) cI 8 9 72 ((bst u13.2 0 u26).1 4, (bst u13.2 0 u26).2 0)) [5, 6] rfl
          refine gmu_v (va_runV (As := [.int v7_12, .int 4, .int x22]) (rest := []) ⟨hx, hb, hml, hown, hts⟩ (mX9_put l dC dI cI cB cO cL (tad (qb 1) (qb 2)) 8 9 72 ((bst u13.2 0 u26).1 4, (bst u13.2 0 u26).2 0) v7_12 4 x22 (gD_subT hD [5, 6] rfl rfl) h27) (cwV 3 hts gX6_hearKnownClick_X9_put rfl rfl rfl (by decide +kernel) ⟨Nat.le_of_ble_eq_true rfl, Nat.le_of_ble_eq_true rfl⟩) ⟨cP_blind, va_recv hK hPc (ci := 6) (q0 := 0) rfl rfl, cP_ok hPc hK hE⟩ rfl rfl hl.1 rfl (lv_room (Nat.le_of_ble_eq_true rfl)) dX6_hearKnownClick_114 ⟨Nat.zero_le _, Nat.zero_le _⟩) hP (gD_va hD rfl) hS [5, 6] rfl (fun _ => rfl) (fun u29 H locs hw hP hS => ?_)
          have hP : va_P (dC, dI) vwCl (ew qe cI u13.1 ++ bw qb cI (bst (bst u13.2 0 u26) 0 u29)) H := hP
          have hf := lt_eq hw hf
          have hok := lt_ok hw hok
          exact J_117 v2_12 v3_12 v4_12 v6_12 v7_12 x4 u13.1 (bst (bst u13.2 0 u26) 0 u29) _ _ hP hS _ (lv_sub hl [2, 3, 4, 5, 6, 7, 8, 9, 1] rfl) hf hok
  refine lv_aload_n hx hb dX6_hearKnownClick_0 rfl (lv_at hl 1 rfl) ?_
  refine va_get (D := (dC, dI)) (ci := 1) (v := .ref (qb 1)) (C := RX2) (T := TX2) (N := 8) hx hb hts hin2 hown hK hP 4 rfl rfl 4 (by decide) fl18 (fun _ h9 => h9) rfl dX6_hearKnownClick_1 ?_
  refine lv_astore (lv' := [(5, .ref (qb 1)), (0, .ref (qe 0)), (1, .ref (qb 0)), (2, .int a2), (3, .int a3), (4, .int a4)]) hx hb dX6_hearKnownClick_4 hl (by decide) rfl (fun ls hl => ?_)
  refine lv_iconst (v := 0) hx hb dX6_hearKnownClick_6 (by decide) ?_
  refine lv_istore (lv' := [(6, .int 0), (5, .ref (qb 1)), (0, .ref (qe 0)), (1, .ref (qb 0)), (2, .int a2), (3, .int a3), (4, .int a4)]) hx hb dX6_hearKnownClick_7 hl (by decide) rfl (fun ls hl => ?_)
  refine lv_iconst (v := 0) hx hb dX6_hearKnownClick_9 (by decide) ?_
  refine lv_istore (lv' := [(7, .int 0), (6, .int 0), (5, .ref (qb 1)), (0, .ref (qe 0)), (1, .ref (qb 0)), (2, .int a2), (3, .int a3), (4, .int a4)]) hx hb dX6_hearKnownClick_10 hl (by decide) rfl (fun ls hl => ?_)
  exact J_12 fu a2 a3 a4 0 0 t b _ _ hP hS _ (lv_sub hl [3, 4, 5, 6, 7, 2, 1, 0] rfl) hf hok
noncomputable def pX8_outdate (s9 : SS) : SS := lt (ssi s9 3 0) fun (s9_1 : SS) => s9_1
abbrev rX8_outdate : Room := { frames := 0, cells := 0, slots := 0, locals := 0 }
set_option maxHeartbeats 4000000 in
set_option maxRecDepth 100000 in
theorem mX8_outdate (l : Launch) (dC : Nat → ClassId) (dI : Nat → Nat → Nat) (cI cB cO cL : ClassId) (qs : Nat → Nat) (s9 : SS) (hI : gD (fun _ => True) (sAd qs)) : Met l yX8_outdate wsX8_outdate rX8_outdate (cP (dC, dI) (tYS cI cB cO cL) (sw qs cI s9) [.ref (qs 0)]) (gQv (dC, dI) (fun z9 => sw qs cI z9) (wA (sw qs cI s9)) (pX8_outdate s9)) 0 0 (wA (sw qs cI s9)) := by
  refine cMet (cc := cX8_outdate) (maxL := 1) (ret := none) [(0, .ref (qs 0))] (by decide) rfl rfl rfl ?_
  intro p e s mi below meth c C0 hK hE hP ls hl
  obtain ⟨hx, hb, hr, hml, hown, hts, hlocks⟩ := id C0
  have hown : s.vm.findClass RX8 = some mi.cls := hown
  have hS : va_S (wA (sw qs cI s9)) s.heap s.heap [] := va_S.rf
  have hD : gD (wA (sw qs cI s9)) (sAd qs) := gD_wA (ws := sw qs cI s9) hI
  have hP : va_P (dC, dI) vwCl (sw qs cI s9) s.heap := hP
  obtain ⟨F, hF⟩ : ∃ F, F = pX8_outdate s9 := ⟨_, rfl⟩
  have hf := hF
  have hin8 : ∀ w ∈ u_ws RX8 TX8 9, w ∈ wsX8_outdate := by decide +kernel
  have fl35 := hts (.fieldLink RX8 35 "ClickBench$Survey" "isFresh" "Z") (by decide +kernel)
  refine lv_aload_n hx hb dX8_outdate_0 rfl (lv_at hl 0 rfl) ?_
  refine lv_iconst (v := 0) hx hb dX8_outdate_1 (by decide) ?_
  refine va_put (D := (dC, dI)) (ci := 5) (v := .int 0) (ty := .boolean) (C := RX8) (T := TX8) (N := 9) hx hb hts hin8 tyX8 tyX8_ok nmX8 hown hK hP (gD_va hD rfl) hS 0 rfl rfl 7 (by decide) fl35 (fun _ h9 => h9) rfl (by decide +kernel) rfl rfl (Nat.le_of_ble_eq_true rfl) dX8_outdate_2 (fun H locs hP _ hS => ?_)
  obtain ⟨s9_1, es9_1⟩ : ∃ z9 : SS, z9 = ssi s9 3 0 := ⟨_, rfl⟩
  have hP : va_P (dC, dI) vwCl (sw qs cI s9_1) H := by rw [es9_1]; exact hP
  have hf := lt_eq es9_1 hf
  exact e_mv C0 (hf.symm.trans hF) hP hS dX8_outdate_5
noncomputable def pX8_pairCount (s9 : SS) : Int32 := ((s9.1 0) * ((s9.1 0) - 1)) / 2
abbrev rX8_pairCount : Room := { frames := 0, cells := 0, slots := 0, locals := 0 }
set_option maxHeartbeats 4000000 in
set_option maxRecDepth 100000 in
theorem mX8_pairCount (l : Launch) (dC : Nat → ClassId) (dI : Nat → Nat → Nat) (cI cB cO cL : ClassId) (qs : Nat → Nat) (s9 : SS) : Met l yX8_pairCount wsX8_pairCount rX8_pairCount (cP (dC, dI) (tYS cI cB cO cL) (sw qs cI s9) [.ref (qs 0)]) (gRi (pX8_pairCount s9)) 0 0 (fun _ => False) := by
  refine cMet (cc := cX8_pairCount) (maxL := 1) (ret := some .int) [(0, .ref (qs 0))] (by decide) rfl rfl rfl ?_
  intro p e s mi below meth c C0 hK hE hP ls hl
  obtain ⟨hx, hb, hr, hml, hown, hts, hlocks⟩ := id C0
  have hown : s.vm.findClass RX8 = some mi.cls := hown
  obtain ⟨F, hF⟩ : ∃ F, F = pX8_pairCount s9 := ⟨_, rfl⟩
  have hf := hF
  have hin8 : ∀ w ∈ u_ws RX8 TX8 9, w ∈ wsX8_pairCount := by decide +kernel
  have fl24 := hts (.fieldLink RX8 24 "ClickBench$Survey" "hearerCount" "I") (by decide +kernel)
  refine lv_aload_n hx hb dX8_pairCount_0 rfl (lv_at hl 0 rfl) ?_
  refine va_get (D := (dC, dI)) (ci := 5) (v := .int (s9.1 0)) (C := RX8) (T := TX8) (N := 9) hx hb hts hin8 hown hK hP 0 rfl rfl 4 (by decide) fl24 (fun _ h9 => h9) rfl dX8_pairCount_1 ?_
  refine lv_aload_n hx hb dX8_pairCount_4 rfl (lv_at hl 0 rfl) ?_
  refine va_get (D := (dC, dI)) (ci := 5) (v := .int (s9.1 0)) (C := RX8) (T := TX8) (N := 9) hx hb hts hin8 hown hK hP 0 rfl rfl 4 (by decide) fl24 (fun _ h9 => h9) rfl dX8_pairCount_5 ?_
  refine lv_iconst (v := 1) hx hb dX8_pairCount_8 (by decide) ?_
  refine lv_isub hx hb dX8_pairCount_9 ?_
  refine lv_imul hx hb dX8_pairCount_10 ?_
  refine lv_iconst (v := 2) hx hb dX8_pairCount_11 (by decide) ?_
  refine lv_idiv hx hb dX8_pairCount_12 (by decide) ?_
  exact e_ri C0 (hf.symm.trans hF) dX8_pairCount_13
noncomputable def pX8_votesOf (s9 : SS) (a1 : Int32) : Int32 := if (pX11_isBetween a1 0 399) = true then ((s9.2 0) a1.toNatClampNeg) else (0)
def kX8_votesOf (s9 : SS) (a1 : Int32) : Prop := if (pX11_isBetween a1 0 399) = true then (vp_in a1 400) else (True)
abbrev rX8_votesOf : Room := { frames := 1, cells := 0, slots := 0, locals := 22 }
set_option maxHeartbeats 4000000 in
set_option maxRecDepth 100000 in
theorem mX8_votesOf (l : Launch) (dC : Nat → ClassId) (dI : Nat → Nat → Nat) (cI cB cO cL : ClassId) (qs : Nat → Nat) (s9 : SS) (a1 : Int32) (hok : kX8_votesOf s9 a1) : Met l yX8_votesOf wsX8_votesOf rX8_votesOf (cP (dC, dI) (tYS cI cB cO cL) (sw qs cI s9) [.ref (qs 0), .int a1]) (gRi (pX8_votesOf s9 a1)) 0 0 (fun _ => False) := by
  refine cMet (cc := cX8_votesOf) (maxL := 2) (ret := some .int) [(0, .ref (qs 0)), (1, .int a1)] (by decide) rfl rfl rfl ?_
  intro p e s mi below meth c C0 hK hE hP ls hl
  obtain ⟨hx, hb, hr, hml, hown, hts, hlocks⟩ := id C0
  have hown : s.vm.findClass RX8 = some mi.cls := hown
  obtain ⟨F, hF⟩ : ∃ F, F = pX8_votesOf s9 a1 := ⟨_, rfl⟩
  have hf := hF
  have hin8 : ∀ w ∈ u_ws RX8 TX8 9, w ∈ wsX8_votesOf := by decide +kernel
  have fl9 := hts (.fieldLink RX8 9 "ClickBench$Survey" "votes" "[I") (by decide +kernel)
  refine lv_iload_n hx hb dX8_votesOf_0 rfl (lv_at hl 1 rfl) ?_
  refine lv_iconst (v := 0) hx hb dX8_votesOf_1 (by decide) ?_
  refine lv_sipush (v := 399) hx hb dX8_votesOf_2 (by decide) ?_
  refine gro_i (va_runSN (As := [.int a1, .int 0, .int 399]) (rest := []) ⟨hx, hb, hml, hown, hts⟩ (mX11_isBetween l dC dI cI cB cO cL  a1 0 399  ) ⟨va_cnB 3 hts gX8_votesOf_X11_isBetween_n66 rfl rfl rfl (eN.at hE (own := RX8) (idx := 66) (y := yX11_isBetween) (host := "ClickBench") (by decide +kernel)) (hts (.initialized RX11) (by decide +kernel)) (by decide +kernel) ⟨Nat.le_of_ble_eq_true rfl, Nat.le_of_ble_eq_true rfl⟩, hts (.static yX11_isBetween) (by decide +kernel), trivial⟩ ⟨cP_blind, cP_ok va_P_nil hK hE⟩ rfl rfl hl.1 rfl (lv_room (Nat.le_of_ble_eq_true rfl)) dX8_votesOf_5 ⟨Nat.zero_le _, Nat.zero_le _⟩) ?_
  refine lv_if_eq (tgt := 20) hx hb dX8_votesOf_8 (by decide) (fun c1 => ?_) (fun c1 => ?_)
  · have c1 := bz_f c1
    have hf := ie_eq c1 hf
    refine lv_iconst (v := 0) hx hb dX8_votesOf_20 (by decide) ?_
    exact e_ri C0 (hf.symm.trans hF) dX8_votesOf_21
  · have c1 := bz_t c1
    have hf := it_eq c1 hf
    have hok := it_ok c1 hok
    refine lv_aload_n hx hb dX8_votesOf_11 rfl (lv_at hl 0 rfl) ?_
    refine va_get (D := (dC, dI)) (ci := 5) (v := .ref (qs 1)) (C := RX8) (T := TX8) (N := 9) hx hb hts hin8 hown hK hP 0 rfl rfl 0 (by decide) fl9 (fun _ h9 => h9) rfl dX8_votesOf_12 ?_
    refine lv_iload_n hx hb dX8_votesOf_15 rfl (lv_at hl 1 rfl) ?_
    have h2 : vp_in a1 400 := hok
    refine va_iald (D := (dC, dI)) (tys := (tYS cI cB cO cL)) hx hb hK hP 1 0 rfl rfl h2 dX8_votesOf_16 ?_
    refine lv_goto (tgt := 21) hx hb dX8_votesOf_17 (by decide) ?_
    exact e_ri C0 (hf.symm.trans hF) dX8_votesOf_21
noncomputable def pX8_errorOf (s9 : SS) (a1 : Int32) : Int32 := if (pX11_isBetween a1 0 399) = true then ((s9.2 1) a1.toNatClampNeg) else (0)
def kX8_errorOf (s9 : SS) (a1 : Int32) : Prop := if (pX11_isBetween a1 0 399) = true then (vp_in a1 400) else (True)
abbrev rX8_errorOf : Room := { frames := 1, cells := 0, slots := 0, locals := 22 }
noncomputable def pX8_gapOf (s9 : SS) (a1 : Int32) (a2 : Int32) : Int32 := jabs (((s9.2 3) a1.toNatClampNeg) - ((s9.2 3) a2.toNatClampNeg))
def kX8_gapOf (s9 : SS) (a1 : Int32) (a2 : Int32) : Prop := (vp_in a1 8) ∧ (vp_in a2 8)
abbrev rX8_gapOf : Room := { frames := 1, cells := 0, slots := 0, locals := 23 }
set_option maxHeartbeats 4000000 in
set_option maxRecDepth 100000 in
theorem mX8_gapOf (l : Launch) (dC : Nat → ClassId) (dI : Nat → Nat → Nat) (cI cB cO cL : ClassId) (qs : Nat → Nat) (s9 : SS) (a1 : Int32) (a2 : Int32) (hok : kX8_gapOf s9 a1 a2) : Met l yX8_gapOf wsX8_gapOf rX8_gapOf (cP (dC, dI) (tYS cI cB cO cL) (sw qs cI s9) [.ref (qs 0), .int a1, .int a2]) (gRi (pX8_gapOf s9 a1 a2)) 0 0 (fun _ => False) := by
  refine cMet (cc := cX8_gapOf) (maxL := 3) (ret := some .int) [(0, .ref (qs 0)), (1, .int a1), (2, .int a2)] (by decide) rfl rfl rfl ?_
  intro p e s mi below meth c C0 hK hE hP ls hl
  obtain ⟨hx, hb, hr, hml, hown, hts, hlocks⟩ := id C0
  have hown : s.vm.findClass RX8 = some mi.cls := hown
  obtain ⟨F, hF⟩ : ∃ F, F = pX8_gapOf s9 a1 a2 := ⟨_, rfl⟩
  have hf := hF
  have hin8 : ∀ w ∈ u_ws RX8 TX8 9, w ∈ wsX8_gapOf := by decide +kernel
  have fl21 := hts (.fieldLink RX8 21 "ClickBench$Survey" "starts" "[I") (by decide +kernel)
  have ml89 := hts (.methodLink RX8 89 Lib.Math.abs.name) (by decide +kernel)
  have ms89 := hts (.static Lib.Math.abs.name) (by decide +kernel)
  have mI := hts (.initialized "java/lang/Math") (by decide +kernel)
  have mc89 := hts (.code Lib.Math.abs.name Lib.Math.abs.code 1 (some .int)) (by decide +kernel)
  refine lv_aload_n hx hb dX8_gapOf_0 rfl (lv_at hl 0 rfl) ?_
  refine va_get (D := (dC, dI)) (ci := 5) (v := .ref (qs 4)) (C := RX8) (T := TX8) (N := 9) hx hb hts hin8 hown hK hP 0 rfl rfl 3 (by decide) fl21 (fun _ h9 => h9) rfl dX8_gapOf_1 ?_
  refine lv_iload_n hx hb dX8_gapOf_4 rfl (lv_at hl 1 rfl) ?_
  obtain ⟨h2, hok⟩ := hok
  refine va_iald (D := (dC, dI)) (tys := (tYS cI cB cO cL)) hx hb hK hP 4 0 rfl rfl h2 dX8_gapOf_5 ?_
  refine lv_aload_n hx hb dX8_gapOf_6 rfl (lv_at hl 0 rfl) ?_
  refine va_get (D := (dC, dI)) (ci := 5) (v := .ref (qs 4)) (C := RX8) (T := TX8) (N := 9) hx hb hts hin8 hown hK hP 0 rfl rfl 3 (by decide) fl21 (fun _ h9 => h9) rfl dX8_gapOf_7 ?_
  refine lv_iload_n hx hb dX8_gapOf_10 rfl (lv_at hl 2 rfl) ?_
  have h1 : vp_in a2 8 := hok
  refine va_iald (D := (dC, dI)) (tys := (tYS cI cB cO cL)) hx hb hK hP 4 0 rfl rfl h1 dX8_gapOf_11 ?_
  refine lv_isub hx hb dX8_gapOf_12 ?_
  refine va_mabs hx hb (hml.trans hl.1.symm) hown ml89 ms89 mI mc89 (Nat.le_of_ble_eq_true rfl) (Nat.le_of_ble_eq_true rfl) (Nat.zero_le _) (Nat.zero_le _) dX8_gapOf_13 ?_
  exact e_ri C0 (hf.symm.trans hF) dX8_gapOf_16
noncomputable def pX8_choose_L137  (q_107 : Int32 → Int32 → Int32 → SS → SS) (v1_137 : Int32) (v2_137 : Int32) (v3_137 : Int32) (s9_137 : SS) : SS := lt (v3_137 + 1) fun (x8 : Int32) => q_107 v1_137 v2_137 x8 s9_137
def kX8_choose_L137  (Q_107 : Int32 → Int32 → Int32 → SS → Prop) (v1_137 : Int32) (v2_137 : Int32) (v3_137 : Int32) (s9_137 : SS) : Prop := lt (v3_137 + 1) fun (x8 : Int32) => Q_107 v1_137 v2_137 x8 s9_137
noncomputable def bX8_choose_L107   (q_107 : Int32 → Int32 → Int32 → SS → SS) (v1_107 : Int32) (v2_107 : Int32) (v3_107 : Int32) (s9_107 : SS) : SS := if v1_107 ≤ v3_107 then (lt (ssi s9_107 1 v2_107) fun (s9_6 : SS) => s9_6) else (if ((s9_107.2 0) v3_107.toNatClampNeg) = ((s9_107.2 0) v2_107.toNatClampNeg) then (lt (ssi s9_107 2 ((s9_107.1 2) + 1)) fun (s9_9 : SS) => pX8_choose_L137 q_107 v1_107 v2_107 v3_107 s9_9) else (pX8_choose_L137 q_107 v1_107 v2_107 v3_107 s9_107))
noncomputable def pX8_choose_L107   : Nat → Int32 → Int32 → Int32 → SS → SS
  | 0 => fun _ _ _ s9_107 => (s9_107)
  | n + 1 => bX8_choose_L107   (pX8_choose_L107   n)
def kbX8_choose_L107   (Q_107 : Int32 → Int32 → Int32 → SS → Prop) (v1_107 : Int32) (v2_107 : Int32) (v3_107 : Int32) (s9_107 : SS) : Prop := if v1_107 ≤ v3_107 then (True) else ((vp_in v3_107 400) ∧ ((vp_in v2_107 400) ∧ (if ((s9_107.2 0) v3_107.toNatClampNeg) = ((s9_107.2 0) v2_107.toNatClampNeg) then (lt (ssi s9_107 2 ((s9_107.1 2) + 1)) fun (s9_9 : SS) => kX8_choose_L137 Q_107 v1_107 v2_107 v3_107 s9_9) else (kX8_choose_L137 Q_107 v1_107 v2_107 v3_107 s9_107))))
noncomputable def kX8_choose_L107   : Nat → Int32 → Int32 → Int32 → SS → Prop
  | 0 => fun _ _ _ _ => False
  | n + 1 => kbX8_choose_L107   (kX8_choose_L107   n)
noncomputable def pX8_choose_L99  (q_23 : Int32 → Int32 → Int32 → SS → SS) (v1_99 : Int32) (v2_99 : Int32) (v3_99 : Int32) (s9_99 : SS) : SS := lt (v3_99 + 1) fun (x15 : Int32) => q_23 v1_99 v2_99 x15 s9_99
def kX8_choose_L99  (Q_23 : Int32 → Int32 → Int32 → SS → Prop) (v1_99 : Int32) (v2_99 : Int32) (v3_99 : Int32) (s9_99 : SS) : Prop := lt (v3_99 + 1) fun (x15 : Int32) => Q_23 v1_99 v2_99 x15 s9_99
noncomputable def pX8_choose_L97  (q_23 : Int32 → Int32 → Int32 → SS → SS) (v1_97 : Int32) (v3_97 : Int32) (s9_97 : SS) : SS := pX8_choose_L99 q_23 v1_97 v3_97 v3_97 s9_97
def kX8_choose_L97  (Q_23 : Int32 → Int32 → Int32 → SS → Prop) (v1_97 : Int32) (v3_97 : Int32) (s9_97 : SS) : Prop := kX8_choose_L99 Q_23 v1_97 v3_97 v3_97 s9_97
noncomputable def pX8_choose_L85  (q_23 : Int32 → Int32 → Int32 → SS → SS) (v1_85 : Int32) (v2_85 : Int32) (v3_85 : Int32) (v4_85 : Bool) (t0_85 : Bool) (s9_85 : SS) : SS := if v4_85 = true then (pX8_choose_L97 q_23 v1_85 v3_85 s9_85) else (if t0_85 = true then (pX8_choose_L97 q_23 v1_85 v3_85 s9_85) else (pX8_choose_L99 q_23 v1_85 v2_85 v3_85 s9_85))
def kX8_choose_L85  (Q_23 : Int32 → Int32 → Int32 → SS → Prop) (v1_85 : Int32) (v2_85 : Int32) (v3_85 : Int32) (v4_85 : Bool) (t0_85 : Bool) (s9_85 : SS) : Prop := if v4_85 = true then (kX8_choose_L97 Q_23 v1_85 v3_85 s9_85) else (if t0_85 = true then (kX8_choose_L97 Q_23 v1_85 v3_85 s9_85) else (kX8_choose_L99 Q_23 v1_85 v2_85 v3_85 s9_85))
noncomputable def pX8_choose_L84  (q_23 : Int32 → Int32 → Int32 → SS → SS) (v1_84 : Int32) (v2_84 : Int32) (v3_84 : Int32) (v4_84 : Bool) (s9_84 : SS) : SS := pX8_choose_L85 q_23 v1_84 v2_84 v3_84 v4_84 false s9_84
def kX8_choose_L84  (Q_23 : Int32 → Int32 → Int32 → SS → Prop) (v1_84 : Int32) (v2_84 : Int32) (v3_84 : Int32) (v4_84 : Bool) (s9_84 : SS) : Prop := kX8_choose_L85 Q_23 v1_84 v2_84 v3_84 v4_84 false s9_84
noncomputable def pX8_choose_L48  (q_23 : Int32 → Int32 → Int32 → SS → SS) (v1_48 : Int32) (v2_48 : Int32) (v3_48 : Int32) (t0_48 : Bool) (s9_48 : SS) : SS := if ((s9_48.2 0) v3_48.toNatClampNeg) = ((s9_48.2 0) v2_48.toNatClampNeg) then (if ((s9_48.2 1) v2_48.toNatClampNeg) ≤ ((s9_48.2 1) v3_48.toNatClampNeg) then (pX8_choose_L84 q_23 v1_48 v2_48 v3_48 t0_48 s9_48) else (pX8_choose_L85 q_23 v1_48 v2_48 v3_48 t0_48 true s9_48)) else (pX8_choose_L84 q_23 v1_48 v2_48 v3_48 t0_48 s9_48)
def kX8_choose_L48  (Q_23 : Int32 → Int32 → Int32 → SS → Prop) (v1_48 : Int32) (v2_48 : Int32) (v3_48 : Int32) (t0_48 : Bool) (s9_48 : SS) : Prop := (vp_in v3_48 400) ∧ ((vp_in v2_48 400) ∧ (if ((s9_48.2 0) v3_48.toNatClampNeg) = ((s9_48.2 0) v2_48.toNatClampNeg) then ((vp_in v3_48 400) ∧ ((vp_in v2_48 400) ∧ (if ((s9_48.2 1) v2_48.toNatClampNeg) ≤ ((s9_48.2 1) v3_48.toNatClampNeg) then (kX8_choose_L84 Q_23 v1_48 v2_48 v3_48 t0_48 s9_48) else (kX8_choose_L85 Q_23 v1_48 v2_48 v3_48 t0_48 true s9_48)))) else (kX8_choose_L84 Q_23 v1_48 v2_48 v3_48 t0_48 s9_48)))
noncomputable def bX8_choose_L23   (q_23 : Int32 → Int32 → Int32 → SS → SS) (v1_23 : Int32) (v2_23 : Int32) (v3_23 : Int32) (s9_23 : SS) : SS := if v1_23 ≤ v3_23 then (pX8_choose_L107 fu v1_23 v2_23 0 s9_23) else (if ((s9_23.2 0) v3_23.toNatClampNeg) ≤ ((s9_23.2 0) v2_23.toNatClampNeg) then (pX8_choose_L48 q_23 v1_23 v2_23 v3_23 false s9_23) else (pX8_choose_L48 q_23 v1_23 v2_23 v3_23 true s9_23))
noncomputable def pX8_choose_L23   : Nat → Int32 → Int32 → Int32 → SS → SS
  | 0 => fun _ _ _ s9_23 => (s9_23)
  | n + 1 => bX8_choose_L23   (pX8_choose_L23   n)
def kbX8_choose_L23   (Q_23 : Int32 → Int32 → Int32 → SS → Prop) (v1_23 : Int32) (v2_23 : Int32) (v3_23 : Int32) (s9_23 : SS) : Prop := if v1_23 ≤ v3_23 then (kX8_choose_L107 fu v1_23 v2_23 0 s9_23) else ((vp_in v3_23 400) ∧ ((vp_in v2_23 400) ∧ (if ((s9_23.2 0) v3_23.toNatClampNeg) ≤ ((s9_23.2 0) v2_23.toNatClampNeg) then (kX8_choose_L48 Q_23 v1_23 v2_23 v3_23 false s9_23) else (kX8_choose_L48 Q_23 v1_23 v2_23 v3_23 true s9_23))))
noncomputable def kX8_choose_L23   : Nat → Int32 → Int32 → Int32 → SS → Prop
  | 0 => fun _ _ _ _ => False
  | n + 1 => kbX8_choose_L23   (kX8_choose_L23   n)
noncomputable def pX8_choose (s9 : SS) (a1 : Int32) : SS := lt (ssi s9 1 (-1000000000)) fun (s9_1 : SS) => lt (ssi s9_1 2 0) fun (s9_2 : SS) => if (pX8_pairCount s9_2) = 0 then (s9_2) else (pX8_choose_L23 fu a1 0 1 s9_2)
def kX8_choose (s9 : SS) (a1 : Int32) : Prop := lt (ssi s9 1 (-1000000000)) fun (s9_1 : SS) => lt (ssi s9_1 2 0) fun (s9_2 : SS) => if (pX8_pairCount s9_2) = 0 then (True) else (kX8_choose_L23 fu a1 0 1 s9_2)
abbrev rX8_choose : Room := { frames := 1, cells := 0, slots := 0, locals := 20 }
set_option maxHeartbeats 4000000 in
set_option maxRecDepth 100000 in
theorem mX8_choose (l : Launch) (dC : Nat → ClassId) (dI : Nat → Nat → Nat) (cI cB cO cL : ClassId) (qs : Nat → Nat) (s9 : SS) (a1 : Int32) (hI : gD (fun _ => True) (sAd qs)) (hok : kX8_choose s9 a1) : Met l yX8_choose wsX8_choose rX8_choose (cP (dC, dI) (tYS cI cB cO cL) (sw qs cI s9) [.ref (qs 0), .int a1]) (gQv (dC, dI) (fun z9 => sw qs cI z9) (wA (sw qs cI s9)) (pX8_choose s9 a1)) 0 0 (wA (sw qs cI s9)) := by
  refine cMet (cc := cX8_choose) (maxL := 6) (ret := none) [(0, .ref (qs 0)), (1, .int a1)] (by decide) rfl rfl rfl ?_
  intro p e s mi below meth c C0 hK hE hP ls hl
  obtain ⟨hx, hb, hr, hml, hown, hts, hlocks⟩ := id C0
  have hown : s.vm.findClass RX8 = some mi.cls := hown
  have hS : va_S (wA (sw qs cI s9)) s.heap s.heap [] := va_S.rf
  have hD : gD (wA (sw qs cI s9)) (sAd qs) := gD_wA (ws := sw qs cI s9) hI
  have hP : va_P (dC, dI) vwCl (sw qs cI s9) s.heap := hP
  obtain ⟨F, hF⟩ : ∃ F, F = pX8_choose s9 a1 := ⟨_, rfl⟩
  have hf := hF
  have hin8 : ∀ w ∈ u_ws RX8 TX8 9, w ∈ wsX8_choose := by decide +kernel
  have cn28 := hts (.constant RX8 28 (-1000000000)) (by decide +kernel)
  have fl29 := hts (.fieldLink RX8 29 "ClickBench$Survey" "best" "I") (by decide +kernel)
  have fl32 := hts (.fieldLink RX8 32 "ClickBench$Survey" "tiedCells" "I") (by decide +kernel)
  have fl9 := hts (.fieldLink RX8 9 "ClickBench$Survey" "votes" "[I") (by decide +kernel)
  have fl15 := hts (.fieldLink RX8 15 "ClickBench$Survey" "errors" "[I") (by decide +kernel)
  have J_107 : ∀ (n_107 : Nat) (v1_107 : Int32) (v2_107 : Int32) (v3_107 : Int32) (s9_107 : SS) (H : Heap) (locs : List Loc), va_P (dC, dI) vwCl (sw qs cI s9_107) H → va_S (wA (sw qs cI s9)) s.heap H locs → ∀ ls : Array Slot, lv_has ls 6 [(0, .ref (qs 0)), (1, .int v1_107), (2, .int v2_107), (3, .int v3_107)] → F = pX8_choose_L107 n_107 v1_107 v2_107 v3_107 s9_107 → kX8_choose_L107 n_107 v1_107 v2_107 v3_107 s9_107 → W p l e rX8_choose s mi ([.ref (qs 0), .int a1] : List Value).toArray below meth c H locs 0 0 (MQ below (gQv (dC, dI) (fun z9 => sw qs cI z9) (wA (sw qs cI s9)) (pX8_choose s9 a1)) ([.ref (qs 0), .int a1] : List Value).toArray s 0 0 (wA (sw qs cI s9))) (F0 mi 107 ls []) := by
    intro n_107
    induction n_107 with
    | zero =>
      intro v1_107 v2_107 v3_107 s9_107 H locs hP hS ls hl hf hok
      exact absurd hok (fun h => h)
    | succ n_107 ih_107 =>
      have J_137 : ∀ (v1_137 : Int32) (v2_137 : Int32) (v3_137 : Int32) (s9_137 : SS) (H : Heap) (locs : List Loc), va_P (dC, dI) vwCl (sw qs cI s9_137) H → va_S (wA (sw qs cI s9)) s.heap H locs → ∀ ls : Array Slot, lv_has ls 6 [(0, .ref (qs 0)), (1, .int v1_137), (2, .int v2_137), (3, .int v3_137)] → F = pX8_choose_L137 (pX8_choose_L107 n_107) v1_137 v2_137 v3_137 s9_137 → kX8_choose_L137 (kX8_choose_L107 n_107) v1_137 v2_137 v3_137 s9_137 → W p l e rX8_choose s mi ([.ref (qs 0), .int a1] : List Value).toArray below meth c H locs 0 0 (MQ below (gQv (dC, dI) (fun z9 => sw qs cI z9) (wA (sw qs cI s9)) (pX8_choose s9 a1)) ([.ref (qs 0), .int a1] : List Value).toArray s 0 0 (wA (sw qs cI s9))) (F0 mi 137 ls []) := by
        intro v1_137 v2_137 v3_137 s9_137 H locs hP hS ls hl hf hok
        obtain ⟨x8, ex8⟩ : ∃ y : Int32, y = v3_137 + 1 := ⟨_, rfl⟩
        refine lv_iinc (v := x8) (lv' := [(3, .int x8), (0, .ref (qs 0)), (1, .int v1_137), (2, .int v2_137)]) hx hb dX8_choose_137 hl (k := 3) rfl (by rw [ex8]; rfl) (by decide) rfl (fun ls hl => ?_)
        have hf := lt_eq ex8 hf
        have hok := lt_ok ex8 hok
        refine lv_goto (tgt := 107) hx hb dX8_choose_140 (by decide) ?_
        exact ih_107 v1_137 v2_137 x8 s9_137 _ _ hP hS _ (lv_sub hl [1, 2, 3, 0] rfl) hf hok
      intro v1_107 v2_107 v3_107 s9_107 H locs hP hS ls hl hf hok
      have hf : F = bX8_choose_L107 (pX8_choose_L107 n_107) v1_107 v2_107 v3_107 s9_107 := hf
      have hok : kbX8_choose_L107 (kX8_choose_L107 n_107) v1_107 v2_107 v3_107 s9_107 := hok
      refine lv_iload_n hx hb dX8_choose_107 rfl (lv_at hl 3 rfl) ?_
      refine lv_iload_n hx hb dX8_choose_108 rfl (lv_at hl 1 rfl) ?_
      refine lv_icmp_ge (tgt := 143) hx hb dX8_choose_109 (by decide) (fun c5 => ?_) (fun c5 => ?_)
      · have hf := it_eq c5 hf
        refine lv_aload_n hx hb dX8_choose_143 rfl (lv_at hl 0 rfl) ?_
        refine lv_iload_n hx hb dX8_choose_144 rfl (lv_at hl 2 rfl) ?_
        refine va_put (D := (dC, dI)) (ci := 5) (v := .int v2_107) (ty := .int) (C := RX8) (T := TX8) (N := 9) hx hb hts hin8 tyX8 tyX8_ok nmX8 hown hK hP (gD_va hD rfl) hS 0 rfl rfl 5 (by decide) fl29 (fun _ h9 => h9) rfl (by decide +kernel) rfl rfl (Nat.le_of_ble_eq_true rfl) dX8_choose_145 (fun H locs hP _ hS => ?_)
        obtain ⟨s9_6, es9_6⟩ : ∃ z9 : SS, z9 = ssi s9_107 1 v2_107 := ⟨_, rfl⟩
        have hP : va_P (dC, dI) vwCl (sw qs cI s9_6) H := by rw [es9_6]; exact hP
        have hf := lt_eq es9_6 hf
        exact e_mv C0 (hf.symm.trans hF) hP hS dX8_choose_148
      · have hf := ie_eq c5 hf
        have hok := ie_ok c5 hok
        refine lv_aload_n hx hb dX8_choose_112 rfl (lv_at hl 0 rfl) ?_
        refine va_get (D := (dC, dI)) (ci := 5) (v := .ref (qs 1)) (C := RX8) (T := TX8) (N := 9) hx hb hts hin8 hown hK hP 0 rfl rfl 0 (by decide) fl9 (fun _ h9 => h9) rfl dX8_choose_113 ?_
        refine lv_iload_n hx hb dX8_choose_116 rfl (lv_at hl 3 rfl) ?_
        obtain ⟨h11, hok⟩ := hok
        refine va_iald (D := (dC, dI)) (tys := (tYS cI cB cO cL)) hx hb hK hP 1 0 rfl rfl h11 dX8_choose_117 ?_
        refine lv_aload_n hx hb dX8_choose_118 rfl (lv_at hl 0 rfl) ?_
        refine va_get (D := (dC, dI)) (ci := 5) (v := .ref (qs 1)) (C := RX8) (T := TX8) (N := 9) hx hb hts hin8 hown hK hP 0 rfl rfl 0 (by decide) fl9 (fun _ h9 => h9) rfl dX8_choose_119 ?_
        refine lv_iload_n hx hb dX8_choose_122 rfl (lv_at hl 2 rfl) ?_
        obtain ⟨h10, hok⟩ := hok
        refine va_iald (D := (dC, dI)) (tys := (tYS cI cB cO cL)) hx hb hK hP 1 0 rfl rfl h10 dX8_choose_123 ?_
        refine lv_icmp_ne (tgt := 137) hx hb dX8_choose_124 (by decide) (fun c7 => ?_) (fun c7 => ?_)
        · have hf := ie_eq c7 hf
          have hok := ie_ok c7 hok
          exact J_137 v1_107 v2_107 v3_107 s9_107 _ _ hP hS _ (lv_sub hl [0, 1, 2, 3] rfl) hf hok
        · have hf := it_eq c7 hf
          have hok := it_ok c7 hok
          refine lv_aload_n hx hb dX8_choose_127 rfl (lv_at hl 0 rfl) ?_
          refine lv_dup hx hb dX8_choose_128 rfl ?_
          refine va_get (D := (dC, dI)) (ci := 5) (v := .int (s9_107.1 2)) (C := RX8) (T := TX8) (N := 9) hx hb hts hin8 hown hK hP 0 rfl rfl 6 (by decide) fl32 (fun _ h9 => h9) rfl dX8_choose_129 ?_
          refine lv_iconst (v := 1) hx hb dX8_choose_132 (by decide) ?_
          refine lv_iadd hx hb dX8_choose_133 ?_
          refine va_put (D := (dC, dI)) (ci := 5) (v := .int ((s9_107.1 2) + 1)) (ty := .int) (C := RX8) (T := TX8) (N := 9) hx hb hts hin8 tyX8 tyX8_ok nmX8 hown hK hP (gD_va hD rfl) hS 0 rfl rfl 6 (by decide) fl32 (fun _ h9 => h9) rfl (by decide +kernel) rfl rfl (Nat.le_of_ble_eq_true rfl) dX8_choose_134 (fun H locs hP _ hS => ?_)
          obtain ⟨s9_9, es9_9⟩ : ∃ z9 : SS, z9 = ssi s9_107 2 ((s9_107.1 2) + 1) := ⟨_, rfl⟩
          have hP : va_P (dC, dI) vwCl (sw qs cI s9_9) H := by rw [es9_9]; exact hP
          have hf := lt_eq es9_9 hf
          have hok := lt_ok es9_9 hok
          exact J_137 v1_107 v2_107 v3_107 s9_9 _ _ hP hS _ (lv_sub hl [0, 1, 2, 3] rfl) hf hok
  have J_23 : ∀ (n_23 : Nat) (v1_23 : Int32) (v2_23 : Int32) (v3_23 : Int32) (s9_23 : SS) (H : Heap) (locs : List Loc), va_P (dC, dI) vwCl (sw qs cI s9_23) H → va_S (wA (sw qs cI s9)) s.heap H locs → ∀ ls : Array Slot, lv_has ls 6 [(0, .ref (qs 0)), (1, .int v1_23), (2, .int v2_23), (3, .int v3_23)] → F = pX8_choose_L23 n_23 v1_23 v2_23 v3_23 s9_23 → kX8_choose_L23 n_23 v1_23 v2_23 v3_23 s9_23 → W p l e rX8_choose s mi ([.ref (qs 0), .int a1] : List Value).toArray below meth c H locs 0 0 (MQ below (gQv (dC, dI) (fun z9 => sw qs cI z9) (wA (sw qs cI s9)) (pX8_choose s9 a1)) ([.ref (qs 0), .int a1] : List Value).toArray s 0 0 (wA (sw qs cI s9))) (F0 mi 23 ls []) := by
    intro n_23
    induction n_23 with
    | zero =>
      intro v1_23 v2_23 v3_23 s9_23 H locs hP hS ls hl hf hok
      exact absurd hok (fun h => h)
    | succ n_23 ih_23 =>
      have J_99 : ∀ (v1_99 : Int32) (v2_99 : Int32) (v3_99 : Int32) (s9_99 : SS) (H : Heap) (locs : List Loc), va_P (dC, dI) vwCl (sw qs cI s9_99) H → va_S (wA (sw qs cI s9)) s.heap H locs → ∀ ls : Array Slot, lv_has ls 6 [(0, .ref (qs 0)), (1, .int v1_99), (2, .int v2_99), (3, .int v3_99)] → F = pX8_choose_L99 (pX8_choose_L23 n_23) v1_99 v2_99 v3_99 s9_99 → kX8_choose_L99 (kX8_choose_L23 n_23) v1_99 v2_99 v3_99 s9_99 → W p l e rX8_choose s mi ([.ref (qs 0), .int a1] : List Value).toArray below meth c H locs 0 0 (MQ below (gQv (dC, dI) (fun z9 => sw qs cI z9) (wA (sw qs cI s9)) (pX8_choose s9 a1)) ([.ref (qs 0), .int a1] : List Value).toArray s 0 0 (wA (sw qs cI s9))) (F0 mi 99 ls []) := by
        intro v1_99 v2_99 v3_99 s9_99 H locs hP hS ls hl hf hok
        obtain ⟨x15, ex15⟩ : ∃ y : Int32, y = v3_99 + 1 := ⟨_, rfl⟩
        refine lv_iinc (v := x15) (lv' := [(3, .int x15), (0, .ref (qs 0)), (1, .int v1_99), (2, .int v2_99)]) hx hb dX8_choose_99 hl (k := 3) rfl (by rw [ex15]; rfl) (by decide) rfl (fun ls hl => ?_)
        have hf := lt_eq ex15 hf
        have hok := lt_ok ex15 hok
        refine lv_goto (tgt := 23) hx hb dX8_choose_102 (by decide) ?_
        exact ih_23 v1_99 v2_99 x15 s9_99 _ _ hP hS _ (lv_sub hl [1, 2, 3, 0] rfl) hf hok
      have J_97 : ∀ (v1_97 : Int32) (v3_97 : Int32) (s9_97 : SS) (H : Heap) (locs : List Loc), va_P (dC, dI) vwCl (sw qs cI s9_97) H → va_S (wA (sw qs cI s9)) s.heap H locs → ∀ ls : Array Slot, lv_has ls 6 [(0, .ref (qs 0)), (1, .int v1_97), (3, .int v3_97)] → F = pX8_choose_L97 (pX8_choose_L23 n_23) v1_97 v3_97 s9_97 → kX8_choose_L97 (kX8_choose_L23 n_23) v1_97 v3_97 s9_97 → W p l e rX8_choose s mi ([.ref (qs 0), .int a1] : List Value).toArray below meth c H locs 0 0 (MQ below (gQv (dC, dI) (fun z9 => sw qs cI z9) (wA (sw qs cI s9)) (pX8_choose s9 a1)) ([.ref (qs 0), .int a1] : List Value).toArray s 0 0 (wA (sw qs cI s9))) (F0 mi 97 ls []) := by
        intro v1_97 v3_97 s9_97 H locs hP hS ls hl hf hok
        refine lv_iload_n hx hb dX8_choose_97 rfl (lv_at hl 2 rfl) ?_
        refine lv_istore_n (lv' := [(2, .int v3_97), (0, .ref (qs 0)), (1, .int v1_97), (3, .int v3_97)]) hx hb dX8_choose_98 rfl hl (by decide) rfl (fun ls hl => ?_)
        exact J_99 v1_97 v3_97 v3_97 s9_97 _ _ hP hS _ (lv_sub hl [1, 2, 0, 3] rfl) hf hok
      have J_85 : ∀ (v1_85 : Int32) (v2_85 : Int32) (v3_85 : Int32) (v4_85 : Bool) (t0_85 : Bool) (s9_85 : SS) (H : Heap) (locs : List Loc), va_P (dC, dI) vwCl (sw qs cI s9_85) H → va_S (wA (sw qs cI s9)) s.heap H locs → ∀ ls : Array Slot, lv_has ls 6 [(0, .ref (qs 0)), (1, .int v1_85), (2, .int v2_85), (3, .int v3_85), (4, .int (bz v4_85))] → F = pX8_choose_L85 (pX8_choose_L23 n_23) v1_85 v2_85 v3_85 v4_85 t0_85 s9_85 → kX8_choose_L85 (kX8_choose_L23 n_23) v1_85 v2_85 v3_85 v4_85 t0_85 s9_85 → W p l e rX8_choose s mi ([.ref (qs 0), .int a1] : List Value).toArray below meth c H locs 0 0 (MQ below (gQv (dC, dI) (fun z9 => sw qs cI z9) (wA (sw qs cI s9)) (pX8_choose s9 a1)) ([.ref (qs 0), .int a1] : List Value).toArray s 0 0 (wA (sw qs cI s9))) (F0 mi 85 ls [.int (bz t0_85)]) := by
        intro v1_85 v2_85 v3_85 v4_85 t0_85 s9_85 H locs hP hS ls hl hf hok
        refine lv_istore (lv' := [(5, .int (bz t0_85)), (0, .ref (qs 0)), (1, .int v1_85), (2, .int v2_85), (3, .int v3_85), (4, .int (bz v4_85))]) hx hb dX8_choose_85 hl (by decide) rfl (fun ls hl => ?_)
        refine lv_iload hx hb dX8_choose_87 (lv_at hl 5 rfl) ?_
        refine lv_if_ne (tgt := 97) hx hb dX8_choose_89 (by decide) (fun c14 => ?_) (fun c14 => ?_)
        · have c14 := bz_t c14
          have hf := it_eq c14 hf
          have hok := it_ok c14 hok
          exact J_97 v1_85 v3_85 s9_85 _ _ hP hS _ (lv_sub hl [1, 2, 4] rfl) hf hok
        · have c14 := bz_f c14
          have hf := ie_eq c14 hf
          have hok := ie_ok c14 hok
          refine lv_iload hx hb dX8_choose_92 (lv_at hl 0 rfl) ?_
          refine lv_if_eq (tgt := 99) hx hb dX8_choose_94 (by decide) (fun c16 => ?_) (fun c16 => ?_)
          · have c16 := bz_f c16
            have hf := ie_eq c16 hf
            have hok := ie_ok c16 hok
            exact J_99 v1_85 v2_85 v3_85 s9_85 _ _ hP hS _ (lv_sub hl [1, 2, 3, 4] rfl) hf hok
          · have c16 := bz_t c16
            have hf := it_eq c16 hf
            have hok := it_ok c16 hok
            exact J_97 v1_85 v3_85 s9_85 _ _ hP hS _ (lv_sub hl [1, 2, 4] rfl) hf hok
      have J_84 : ∀ (v1_84 : Int32) (v2_84 : Int32) (v3_84 : Int32) (v4_84 : Bool) (s9_84 : SS) (H : Heap) (locs : List Loc), va_P (dC, dI) vwCl (sw qs cI s9_84) H → va_S (wA (sw qs cI s9)) s.heap H locs → ∀ ls : Array Slot, lv_has ls 6 [(0, .ref (qs 0)), (1, .int v1_84), (2, .int v2_84), (3, .int v3_84), (4, .int (bz v4_84))] → F = pX8_choose_L84 (pX8_choose_L23 n_23) v1_84 v2_84 v3_84 v4_84 s9_84 → kX8_choose_L84 (kX8_choose_L23 n_23) v1_84 v2_84 v3_84 v4_84 s9_84 → W p l e rX8_choose s mi ([.ref (qs 0), .int a1] : List Value).toArray below meth c H locs 0 0 (MQ below (gQv (dC, dI) (fun z9 => sw qs cI z9) (wA (sw qs cI s9)) (pX8_choose s9 a1)) ([.ref (qs 0), .int a1] : List Value).toArray s 0 0 (wA (sw qs cI s9))) (F0 mi 84 ls []) := by
        intro v1_84 v2_84 v3_84 v4_84 s9_84 H locs hP hS ls hl hf hok
        refine lv_iconst (v := 0) hx hb dX8_choose_84 (by decide) ?_
        exact J_85 v1_84 v2_84 v3_84 v4_84 false s9_84 _ _ hP hS _ (lv_sub hl [0, 1, 2, 3, 4] rfl) hf hok
      have J_48 : ∀ (v1_48 : Int32) (v2_48 : Int32) (v3_48 : Int32) (t0_48 : Bool) (s9_48 : SS) (H : Heap) (locs : List Loc), va_P (dC, dI) vwCl (sw qs cI s9_48) H → va_S (wA (sw qs cI s9)) s.heap H locs → ∀ ls : Array Slot, lv_has ls 6 [(0, .ref (qs 0)), (1, .int v1_48), (2, .int v2_48), (3, .int v3_48)] → F = pX8_choose_L48 (pX8_choose_L23 n_23) v1_48 v2_48 v3_48 t0_48 s9_48 → kX8_choose_L48 (kX8_choose_L23 n_23) v1_48 v2_48 v3_48 t0_48 s9_48 → W p l e rX8_choose s mi ([.ref (qs 0), .int a1] : List Value).toArray below meth c H locs 0 0 (MQ below (gQv (dC, dI) (fun z9 => sw qs cI z9) (wA (sw qs cI s9)) (pX8_choose s9 a1)) ([.ref (qs 0), .int a1] : List Value).toArray s 0 0 (wA (sw qs cI s9))) (F0 mi 48 ls [.int (bz t0_48)]) := by
        intro v1_48 v2_48 v3_48 t0_48 s9_48 H locs hP hS ls hl hf hok
        refine lv_istore (lv' := [(4, .int (bz t0_48)), (0, .ref (qs 0)), (1, .int v1_48), (2, .int v2_48), (3, .int v3_48)]) hx hb dX8_choose_48 hl (by decide) rfl (fun ls hl => ?_)
        refine lv_aload_n hx hb dX8_choose_50 rfl (lv_at hl 1 rfl) ?_
        refine va_get (D := (dC, dI)) (ci := 5) (v := .ref (qs 1)) (C := RX8) (T := TX8) (N := 9) hx hb hts hin8 hown hK hP 0 rfl rfl 0 (by decide) fl9 (fun _ h9 => h9) rfl dX8_choose_51 ?_
        refine lv_iload_n hx hb dX8_choose_54 rfl (lv_at hl 4 rfl) ?_
        obtain ⟨h21, hok⟩ := hok
        refine va_iald (D := (dC, dI)) (tys := (tYS cI cB cO cL)) hx hb hK hP 1 0 rfl rfl h21 dX8_choose_55 ?_
        refine lv_aload_n hx hb dX8_choose_56 rfl (lv_at hl 1 rfl) ?_
        refine va_get (D := (dC, dI)) (ci := 5) (v := .ref (qs 1)) (C := RX8) (T := TX8) (N := 9) hx hb hts hin8 hown hK hP 0 rfl rfl 0 (by decide) fl9 (fun _ h9 => h9) rfl dX8_choose_57 ?_
        refine lv_iload_n hx hb dX8_choose_60 rfl (lv_at hl 3 rfl) ?_
        obtain ⟨h20, hok⟩ := hok
        refine va_iald (D := (dC, dI)) (tys := (tYS cI cB cO cL)) hx hb hK hP 1 0 rfl rfl h20 dX8_choose_61 ?_
        refine lv_icmp_ne (tgt := 84) hx hb dX8_choose_62 (by decide) (fun c13 => ?_) (fun c13 => ?_)
        · have hf := ie_eq c13 hf
          have hok := ie_ok c13 hok
          exact J_84 v1_48 v2_48 v3_48 t0_48 s9_48 _ _ hP hS _ (lv_sub hl [1, 2, 3, 4, 0] rfl) hf hok
        · have hf := it_eq c13 hf
          have hok := it_ok c13 hok
          refine lv_aload_n hx hb dX8_choose_65 rfl (lv_at hl 1 rfl) ?_
          refine va_get (D := (dC, dI)) (ci := 5) (v := .ref (qs 2)) (C := RX8) (T := TX8) (N := 9) hx hb hts hin8 hown hK hP 0 rfl rfl 1 (by decide) fl15 (fun _ h9 => h9) rfl dX8_choose_66 ?_
          refine lv_iload_n hx hb dX8_choose_69 rfl (lv_at hl 4 rfl) ?_
          obtain ⟨h19, hok⟩ := hok
          refine va_iald (D := (dC, dI)) (tys := (tYS cI cB cO cL)) hx hb hK hP 2 0 rfl rfl h19 dX8_choose_70 ?_
          refine lv_aload_n hx hb dX8_choose_71 rfl (lv_at hl 1 rfl) ?_
          refine va_get (D := (dC, dI)) (ci := 5) (v := .ref (qs 2)) (C := RX8) (T := TX8) (N := 9) hx hb hts hin8 hown hK hP 0 rfl rfl 1 (by decide) fl15 (fun _ h9 => h9) rfl dX8_choose_72 ?_
          refine lv_iload_n hx hb dX8_choose_75 rfl (lv_at hl 3 rfl) ?_
          obtain ⟨h18, hok⟩ := hok
          refine va_iald (D := (dC, dI)) (tys := (tYS cI cB cO cL)) hx hb hK hP 2 0 rfl rfl h18 dX8_choose_76 ?_
          refine lv_icmp_ge (tgt := 84) hx hb dX8_choose_77 (by decide) (fun c17 => ?_) (fun c17 => ?_)
          · have hf := it_eq c17 hf
            have hok := it_ok c17 hok
            exact J_84 v1_48 v2_48 v3_48 t0_48 s9_48 _ _ hP hS _ (lv_sub hl [1, 2, 3, 4, 0] rfl) hf hok
          · have hf := ie_eq c17 hf
            have hok := ie_ok c17 hok
            refine lv_iconst (v := 1) hx hb dX8_choose_80 (by decide) ?_
            refine lv_goto (tgt := 85) hx hb dX8_choose_81 (by decide) ?_
            exact J_85 v1_48 v2_48 v3_48 t0_48 true s9_48 _ _ hP hS _ (lv_sub hl [1, 2, 3, 4, 0] rfl) hf hok
      intro v1_23 v2_23 v3_23 s9_23 H locs hP hS ls hl hf hok
      have hf : F = bX8_choose_L23 (pX8_choose_L23 n_23) v1_23 v2_23 v3_23 s9_23 := hf
      have hok : kbX8_choose_L23 (kX8_choose_L23 n_23) v1_23 v2_23 v3_23 s9_23 := hok
      refine lv_iload_n hx hb dX8_choose_23 rfl (lv_at hl 3 rfl) ?_
      refine lv_iload_n hx hb dX8_choose_24 rfl (lv_at hl 1 rfl) ?_
      refine lv_icmp_ge (tgt := 105) hx hb dX8_choose_25 (by decide) (fun c4 => ?_) (fun c4 => ?_)
      · have hf := it_eq c4 hf
        have hok := it_ok c4 hok
        refine lv_iconst (v := 0) hx hb dX8_choose_105 (by decide) ?_
        refine lv_istore_n (lv' := [(3, .int 0), (0, .ref (qs 0)), (1, .int v1_23), (2, .int v2_23)]) hx hb dX8_choose_106 rfl hl (by decide) rfl (fun ls hl => ?_)
        exact J_107 fu v1_23 v2_23 0 s9_23 _ _ hP hS _ (lv_sub hl [1, 2, 3, 0] rfl) hf hok
      · have hf := ie_eq c4 hf
        have hok := ie_ok c4 hok
        refine lv_aload_n hx hb dX8_choose_28 rfl (lv_at hl 0 rfl) ?_
        refine va_get (D := (dC, dI)) (ci := 5) (v := .ref (qs 1)) (C := RX8) (T := TX8) (N := 9) hx hb hts hin8 hown hK hP 0 rfl rfl 0 (by decide) fl9 (fun _ h9 => h9) rfl dX8_choose_29 ?_
        refine lv_iload_n hx hb dX8_choose_32 rfl (lv_at hl 3 rfl) ?_
        obtain ⟨h23, hok⟩ := hok
        refine va_iald (D := (dC, dI)) (tys := (tYS cI cB cO cL)) hx hb hK hP 1 0 rfl rfl h23 dX8_choose_33 ?_
        refine lv_aload_n hx hb dX8_choose_34 rfl (lv_at hl 0 rfl) ?_
        refine va_get (D := (dC, dI)) (ci := 5) (v := .ref (qs 1)) (C := RX8) (T := TX8) (N := 9) hx hb hts hin8 hown hK hP 0 rfl rfl 0 (by decide) fl9 (fun _ h9 => h9) rfl dX8_choose_35 ?_
        refine lv_iload_n hx hb dX8_choose_38 rfl (lv_at hl 2 rfl) ?_
        obtain ⟨h22, hok⟩ := hok
        refine va_iald (D := (dC, dI)) (tys := (tYS cI cB cO cL)) hx hb hK hP 1 0 rfl rfl h22 dX8_choose_39 ?_
        refine lv_icmp_le (tgt := 47) hx hb dX8_choose_40 (by decide) (fun c12 => ?_) (fun c12 => ?_)
        · have hf := it_eq c12 hf
          have hok := it_ok c12 hok
          refine lv_iconst (v := 0) hx hb dX8_choose_47 (by decide) ?_
          exact J_48 v1_23 v2_23 v3_23 false s9_23 _ _ hP hS _ (lv_sub hl [0, 1, 2, 3] rfl) hf hok
        · have hf := ie_eq c12 hf
          have hok := ie_ok c12 hok
          refine lv_iconst (v := 1) hx hb dX8_choose_43 (by decide) ?_
          refine lv_goto (tgt := 48) hx hb dX8_choose_44 (by decide) ?_
          exact J_48 v1_23 v2_23 v3_23 true s9_23 _ _ hP hS _ (lv_sub hl [0, 1, 2, 3] rfl) hf hok
  refine lv_aload_n hx hb dX8_choose_0 rfl (lv_at hl 0 rfl) ?_
  refine lv_ldc (v := (-1000000000)) hx hb hown cn28 dX8_choose_1 ?_
  refine va_put (D := (dC, dI)) (ci := 5) (v := .int (-1000000000)) (ty := .int) (C := RX8) (T := TX8) (N := 9) hx hb hts hin8 tyX8 tyX8_ok nmX8 hown hK hP (gD_va hD rfl) hS 0 rfl rfl 5 (by decide) fl29 (fun _ h9 => h9) rfl (by decide +kernel) rfl rfl (Nat.le_of_ble_eq_true rfl) dX8_choose_3 (fun H locs hP _ hS => ?_)
  obtain ⟨s9_1, es9_1⟩ : ∃ z9 : SS, z9 = ssi s9 1 (-1000000000) := ⟨_, rfl⟩
  have hP : va_P (dC, dI) vwCl (sw qs cI s9_1) H := by rw [es9_1]; exact hP
  have hf := lt_eq es9_1 hf
  have hok := lt_ok es9_1 hok
  refine lv_aload_n hx hb dX8_choose_6 rfl (lv_at hl 0 rfl) ?_
  refine lv_iconst (v := 0) hx hb dX8_choose_7 (by decide) ?_
  refine va_put (D := (dC, dI)) (ci := 5) (v := .int 0) (ty := .int) (C := RX8) (T := TX8) (N := 9) hx hb hts hin8 tyX8 tyX8_ok nmX8 hown hK hP (gD_va hD rfl) hS 0 rfl rfl 6 (by decide) fl32 (fun _ h9 => h9) rfl (by decide +kernel) rfl rfl (Nat.le_of_ble_eq_true rfl) dX8_choose_8 (fun H locs hP _ hS => ?_)
  obtain ⟨s9_2, es9_2⟩ : ∃ z9 : SS, z9 = ssi s9_1 2 0 := ⟨_, rfl⟩
  have hP : va_P (dC, dI) vwCl (sw qs cI s9_2) H := by rw [es9_2]; exact hP
  have hf := lt_eq es9_2 hf
  have hok := lt_ok es9_2 hok
  refine lv_aload_n hx hb dX8_choose_11 rfl (lv_at hl 0 rfl) ?_
  refine gro_i (va_runV (As := []) (rest := []) ⟨hx, hb, hml, hown, hts⟩ (mX8_pairCount l dC dI cI cB cO cL qs s9_2  ) (cwV 0 hts gX8_choose_X8_pairCount rfl rfl rfl (by decide +kernel) ⟨Nat.le_of_ble_eq_true rfl, Nat.le_of_ble_eq_true rfl⟩) ⟨cP_blind, va_recv hK hP (ci := 5) (q0 := 0) rfl rfl, cP_ok hP hK hE⟩ rfl rfl hl.1 rfl (lv_room (Nat.le_of_ble_eq_true rfl)) dX8_choose_12 ⟨Nat.zero_le _, Nat.zero_le _⟩) ?_
  refine lv_if_ne (tgt := 19) hx hb dX8_choose_15 (by decide) (fun c3 => ?_) (fun c3 => ?_)
  · have hf := ie_eq c3 hf
    have hok := ie_ok c3 hok
    refine lv_iconst (v := 0) hx hb dX8_choose_19 (by decide) ?_
    refine lv_istore_n (lv' := [(2, .int 0), (0, .ref (qs 0)), (1, .int a1)]) hx hb dX8_choose_20 rfl hl (by decide) rfl (fun ls hl => ?_)
    refine lv_iconst (v := 1) hx hb dX8_choose_21 (by decide) ?_
    refine lv_istore_n (lv' := [(3, .int 1), (2, .int 0), (0, .ref (qs 0)), (1, .int a1)]) hx hb dX8_choose_22 rfl hl (by decide) rfl (fun ls hl => ?_)
    exact J_23 fu a1 0 1 s9_2 _ _ hP hS _ (lv_sub hl [2, 3, 1, 0] rfl) hf hok
  · have hf := it_eq c3 hf
    exact e_mv C0 (hf.symm.trans hF) hP hS dX8_choose_18
noncomputable def pX8_gatherHearers_L61  (q_20 : Int32 → Int32 → SS → BS → (SS × BS)) (v2_61 : Int32) (v3_61 : Int32) (s9_61 : SS) (b_61 : BS) : SS × BS := lt (v3_61 + 1) fun (x5 : Int32) => q_20 v2_61 x5 s9_61 b_61
def kX8_gatherHearers_L61  (Q_20 : Int32 → Int32 → SS → BS → Prop) (v2_61 : Int32) (v3_61 : Int32) (s9_61 : SS) (b_61 : BS) : Prop := lt (v3_61 + 1) fun (x5 : Int32) => Q_20 v2_61 x5 s9_61 b_61
noncomputable def bX8_gatherHearers_L20   (q_20 : Int32 → Int32 → SS → BS → (SS × BS)) (v2_20 : Int32) (v3_20 : Int32) (s9_20 : SS) (b_20 : BS) : SS × BS := if v2_20 ≤ v3_20 then ((s9_20, b_20)) else (if v3_20 = (s9_20.1 4) then (pX8_gatherHearers_L61 q_20 v2_20 v3_20 s9_20 b_20) else (if (pX2_hasNoted b_20 v3_20) = true then (lt (ssa s9_20 2 (upd (s9_20.2 2) ((s9_20.1 0).toNatClampNeg) v3_20)) fun (s9_9 : SS) => lt (ssi s9_9 0 ((s9_9.1 0) + 1)) fun (s9_10 : SS) => pX8_gatherHearers_L61 q_20 v2_20 v3_20 s9_10 b_20) else (pX8_gatherHearers_L61 q_20 v2_20 v3_20 s9_20 b_20)))
noncomputable def pX8_gatherHearers_L20   : Nat → Int32 → Int32 → SS → BS → (SS × BS)
  | 0 => fun _ _ s9_20 b_20 => (s9_20, b_20)
  | n + 1 => bX8_gatherHearers_L20   (pX8_gatherHearers_L20   n)
def kbX8_gatherHearers_L20   (Q_20 : Int32 → Int32 → SS → BS → Prop) (v2_20 : Int32) (v3_20 : Int32) (s9_20 : SS) (b_20 : BS) : Prop := if v2_20 ≤ v3_20 then (True) else (if v3_20 = (s9_20.1 4) then (kX8_gatherHearers_L61 Q_20 v2_20 v3_20 s9_20 b_20) else ((kX2_hasNoted b_20 v3_20) ∧ (if (pX2_hasNoted b_20 v3_20) = true then ((vp_in (s9_20.1 0) 8) ∧ (lt (ssa s9_20 2 (upd (s9_20.2 2) ((s9_20.1 0).toNatClampNeg) v3_20)) fun (s9_9 : SS) => lt (ssi s9_9 0 ((s9_9.1 0) + 1)) fun (s9_10 : SS) => kX8_gatherHearers_L61 Q_20 v2_20 v3_20 s9_10 b_20)) else (kX8_gatherHearers_L61 Q_20 v2_20 v3_20 s9_20 b_20))))
noncomputable def kX8_gatherHearers_L20   : Nat → Int32 → Int32 → SS → BS → Prop
  | 0 => fun _ _ _ _ => False
  | n + 1 => kbX8_gatherHearers_L20   (kX8_gatherHearers_L20   n)
noncomputable def pX8_gatherHearers (s9 : SS) (b : BS) : SS × BS := lt (ssi s9 0 0) fun (s9_1 : SS) => lt (jmin (b.1 4) 8) fun (x2 : Int32) => pX8_gatherHearers_L20 fu x2 0 s9_1 b
def kX8_gatherHearers (s9 : SS) (b : BS) : Prop := lt (ssi s9 0 0) fun (s9_1 : SS) => lt (jmin (b.1 4) 8) fun (x2 : Int32) => kX8_gatherHearers_L20 fu x2 0 s9_1 b
abbrev rX8_gatherHearers : Room := { frames := 2, cells := 0, slots := 0, locals := 43 }
set_option maxHeartbeats 4000000 in
set_option maxRecDepth 100000 in
theorem mX8_gatherHearers (l : Launch) (dC : Nat → ClassId) (dI : Nat → Nat → Nat) (cI cB cO cL : ClassId) (qs : Nat → Nat) (qb : Nat → Nat) (s9 : SS) (b : BS) (hI : gD (fun _ => True) (sAd qs ++ bAd qb)) (hok : kX8_gatherHearers s9 b) : Met l yX8_gatherHearers wsX8_gatherHearers rX8_gatherHearers (cP (dC, dI) (tYS cI cB cO cL) (sw qs cI s9 ++ bw qb cI b) [.ref (qs 0), .ref (qb 0)]) (gQv (dC, dI) (fun z9 : SS × BS => sw qs cI z9.1 ++ bw qb cI z9.2) (wA (sw qs cI s9 ++ bw qb cI b)) (pX8_gatherHearers s9 b)) 0 0 (wA (sw qs cI s9 ++ bw qb cI b)) := by
  refine cMet (cc := cX8_gatherHearers) (maxL := 4) (ret := none) [(0, .ref (qs 0)), (1, .ref (qb 0))] (by decide) rfl rfl rfl ?_
  intro p e s mi below meth c C0 hK hE hP ls hl
  obtain ⟨hx, hb, hr, hml, hown, hts, hlocks⟩ := id C0
  have hown : s.vm.findClass RX8 = some mi.cls := hown
  have hS : va_S (wA (sw qs cI s9 ++ bw qb cI b)) s.heap s.heap [] := va_S.rf
  have hD : gD (wA (sw qs cI s9 ++ bw qb cI b)) (sAd qs ++ bAd qb) := gD_wA (ws := sw qs cI s9 ++ bw qb cI b) hI
  have hP : va_P (dC, dI) vwCl (sw qs cI s9 ++ bw qb cI b) s.heap := hP
  obtain ⟨F, hF⟩ : ∃ F, F = pX8_gatherHearers s9 b := ⟨_, rfl⟩
  have hf := hF
  have hin8 : ∀ w ∈ u_ws RX8 TX8 9, w ∈ wsX8_gatherHearers := by decide +kernel
  have hin2 : ∀ w ∈ u_ws RX2 TX2 8, w ∈ wsX8_gatherHearers := by decide +kernel
  have hin9 : ∀ w ∈ u_ws RX9 TX9 4, w ∈ wsX8_gatherHearers := by decide +kernel
  have fl24 := hts (.fieldLink RX8 24 "ClickBench$Survey" "hearerCount" "I") (by decide +kernel)
  have fl70 := hts (.fieldLink RX8 70 "ClickBench$Bench" "microphones" "LClickBench$Table;") (by decide +kernel)
  have fl74 := hts (.fieldLink RX8 74 "ClickBench$Table" "count" "I") (by decide +kernel)
  have ml52 := hts (.methodLink RX8 52 Lib.Math.min.name) (by decide +kernel)
  have ms52 := hts (.static Lib.Math.min.name) (by decide +kernel)
  have mI := hts (.initialized "java/lang/Math") (by decide +kernel)
  have mc52 := hts (.code Lib.Math.min.name Lib.Math.min.code 2 (some .int)) (by decide +kernel)
  have fl39 := hts (.fieldLink RX8 39 "ClickBench$Survey" "leftOut" "I") (by decide +kernel)
  have fl18 := hts (.fieldLink RX8 18 "ClickBench$Survey" "hearers" "[I") (by decide +kernel)
  have J_20 : ∀ (n_20 : Nat) (v2_20 : Int32) (v3_20 : Int32) (s9_20 : SS) (b_20 : BS) (H : Heap) (locs : List Loc), va_P (dC, dI) vwCl (sw qs cI s9_20 ++ bw qb cI b_20) H → va_S (wA (sw qs cI s9 ++ bw qb cI b)) s.heap H locs → ∀ ls : Array Slot, lv_has ls 4 [(0, .ref (qs 0)), (1, .ref (qb 0)), (2, .int v2_20), (3, .int v3_20)] → F = pX8_gatherHearers_L20 n_20 v2_20 v3_20 s9_20 b_20 → kX8_gatherHearers_L20 n_20 v2_20 v3_20 s9_20 b_20 → W p l e rX8_gatherHearers s mi ([.ref (qs 0), .ref (qb 0)] : List Value).toArray below meth c H locs 0 0 (MQ below (gQv (dC, dI) (fun z9 : SS × BS => sw qs cI z9.1 ++ bw qb cI z9.2) (wA (sw qs cI s9 ++ bw qb cI b)) (pX8_gatherHearers s9 b)) ([.ref (qs 0), .ref (qb 0)] : List Value).toArray s 0 0 (wA (sw qs cI s9 ++ bw qb cI b))) (F0 mi 20 ls []) := by
    intro n_20
    induction n_20 with
    | zero =>
      intro v2_20 v3_20 s9_20 b_20 H locs hP hS ls hl hf hok
      exact absurd hok (fun h => h)
    | succ n_20 ih_20 =>
      have J_61 : ∀ (v2_61 : Int32) (v3_61 : Int32) (s9_61 : SS) (b_61 : BS) (H : Heap) (locs : List Loc), va_P (dC, dI) vwCl (sw qs cI s9_61 ++ bw qb cI b_61) H → va_S (wA (sw qs cI s9 ++ bw qb cI b)) s.heap H locs → ∀ ls : Array Slot, lv_has ls 4 [(0, .ref (qs 0)), (1, .ref (qb 0)), (2, .int v2_61), (3, .int v3_61)] → F = pX8_gatherHearers_L61 (pX8_gatherHearers_L20 n_20) v2_61 v3_61 s9_61 b_61 → kX8_gatherHearers_L61 (kX8_gatherHearers_L20 n_20) v2_61 v3_61 s9_61 b_61 → W p l e rX8_gatherHearers s mi ([.ref (qs 0), .ref (qb 0)] : List Value).toArray below meth c H locs 0 0 (MQ below (gQv (dC, dI) (fun z9 : SS × BS => sw qs cI z9.1 ++ bw qb cI z9.2) (wA (sw qs cI s9 ++ bw qb cI b)) (pX8_gatherHearers s9 b)) ([.ref (qs 0), .ref (qb 0)] : List Value).toArray s 0 0 (wA (sw qs cI s9 ++ bw qb cI b))) (F0 mi 61 ls []) := by
        intro v2_61 v3_61 s9_61 b_61 H locs hP hS ls hl hf hok
        obtain ⟨x5, ex5⟩ : ∃ y : Int32, y = v3_61 + 1 := ⟨_, rfl⟩
        refine lv_iinc (v := x5) (lv' := [(3, .int x5), (0, .ref (qs 0)), (1, .ref (qb 0)), (2, .int v2_61)]) hx hb dX8_gatherHearers_61 hl (k := 3) rfl (by rw [ex5]; rfl) (by decide) rfl (fun ls hl => ?_)
        have hf := lt_eq ex5 hf
        have hok := lt_ok ex5 hok
        refine lv_goto (tgt := 20) hx hb dX8_gatherHearers_64 (by decide) ?_
        exact ih_20 v2_61 x5 s9_61 b_61 _ _ hP hS _ (lv_sub hl [1, 2, 3, 0] rfl) hf hok
      intro v2_20 v3_20 s9_20 b_20 H locs hP hS ls hl hf hok
      have hf : F = bX8_gatherHearers_L20 (pX8_gatherHearers_L20 n_20) v2_20 v3_20 s9_20 b_20 := hf
      have hok : kbX8_gatherHearers_L20 (kX8_gatherHearers_L20 n_20) v2_20 v3_20 s9_20 b_20 := hok
      refine lv_iload_n hx hb dX8_gatherHearers_20 rfl (lv_at hl 3 rfl) ?_
      refine lv_iload_n hx hb dX8_gatherHearers_21 rfl (lv_at hl 2 rfl) ?_
      refine lv_icmp_ge (tgt := 67) hx hb dX8_gatherHearers_22 (by decide) (fun c3 => ?_) (fun c3 => ?_)
      · have hf := it_eq c3 hf
        exact e_mv C0 (hf.symm.trans hF) hP hS dX8_gatherHearers_67
      · have hf := ie_eq c3 hf
        have hok := ie_ok c3 hok
        refine lv_iload_n hx hb dX8_gatherHearers_25 rfl (lv_at hl 3 rfl) ?_
        refine lv_aload_n hx hb dX8_gatherHearers_26 rfl (lv_at hl 0 rfl) ?_
        refine va_get (D := (dC, dI)) (ci := 5) (v := .int (s9_20.1 4)) (C := RX8) (T := TX8) (N := 9) hx hb hts hin8 hown hK hP 0 rfl rfl 8 (by decide) fl39 (fun _ h9 => h9) rfl dX8_gatherHearers_27 ?_
        refine lv_icmp_eq (tgt := 61) hx hb dX8_gatherHearers_30 (by decide) (fun c4 => ?_) (fun c4 => ?_)
        · have hf := it_eq c4 hf
          have hok := it_ok c4 hok
          exact J_61 v2_20 v3_20 s9_20 b_20 _ _ hP hS _ (lv_sub hl [0, 1, 2, 3] rfl) hf hok
        · have hf := ie_eq c4 hf
          have hok := ie_ok c4 hok
          refine lv_aload_n hx hb dX8_gatherHearers_33 rfl (lv_at hl 1 rfl) ?_
          refine lv_iload_n hx hb dX8_gatherHearers_34 rfl (lv_at hl 3 rfl) ?_
          obtain ⟨h6, hok⟩ := hok
          have hPc := hP.sub (ws' := bw qb cI b_20) [5, 6, 7, 8, 9, 10, 11, 12, 13] rfl
          refine gro_i (va_runV (As := [.int v3_20]) (rest := []) ⟨hx, hb, hml, hown, hts⟩ (mX2_hasNoted l dC dI cI cB cO cL qb b_20 v3_20  h6) (cwV 1 hts gX8_gatherHearers_X2_hasNoted rfl rfl rfl (by decide +kernel) ⟨Nat.le_of_ble_eq_true rfl, Nat.le_of_ble_eq_true rfl⟩) ⟨cP_blind, va_recv hK hPc (ci := 1) (q0 := 0) rfl rfl, cP_ok hPc hK hE⟩ rfl rfl hl.1 rfl (lv_room (Nat.le_of_ble_eq_true rfl)) dX8_gatherHearers_35 ⟨Nat.zero_le _, Nat.zero_le _⟩) ?_
          refine lv_if_eq (tgt := 61) hx hb dX8_gatherHearers_38 (by decide) (fun c7 => ?_) (fun c7 => ?_)
          · have c7 := bz_f c7
            have hf := ie_eq c7 hf
            have hok := ie_ok c7 hok
            exact J_61 v2_20 v3_20 s9_20 b_20 _ _ hP hS _ (lv_sub hl [0, 1, 2, 3] rfl) hf hok
          · have c7 := bz_t c7
            have hf := it_eq c7 hf
            have hok := it_ok c7 hok
            refine lv_aload_n hx hb dX8_gatherHearers_41 rfl (lv_at hl 0 rfl) ?_
            refine va_get (D := (dC, dI)) (ci := 5) (v := .ref (qs 3)) (C := RX8) (T := TX8) (N := 9) hx hb hts hin8 hown hK hP 0 rfl rfl 2 (by decide) fl18 (fun _ h9 => h9) rfl dX8_gatherHearers_42 ?_
            refine lv_aload_n hx hb dX8_gatherHearers_45 rfl (lv_at hl 0 rfl) ?_
            refine va_get (D := (dC, dI)) (ci := 5) (v := .int (s9_20.1 0)) (C := RX8) (T := TX8) (N := 9) hx hb hts hin8 hown hK hP 0 rfl rfl 4 (by decide) fl24 (fun _ h9 => h9) rfl dX8_gatherHearers_46 ?_
            refine lv_iload_n hx hb dX8_gatherHearers_49 rfl (lv_at hl 3 rfl) ?_
            obtain ⟨h8, hok⟩ := hok
            refine va_iast (D := (dC, dI)) (tys := (tYS cI cB cO cL)) hx hb hK hP (gD_va hD rfl) hS 3 0 rfl rfl h8 dX8_gatherHearers_50 (fun H locs hP _ hS => ?_)
            obtain ⟨s9_9, es9_9⟩ : ∃ z9 : SS, z9 = ssa s9_20 2 (upd (s9_20.2 2) ((s9_20.1 0).toNatClampNeg) v3_20) := ⟨_, rfl⟩
            have hP : va_P (dC, dI) vwCl (sw qs cI s9_9 ++ bw qb cI b_20) H := by rw [es9_9]; exact hP
            have hf := lt_eq es9_9 hf
            have hok := lt_ok es9_9 hok
            refine lv_aload_n hx hb dX8_gatherHearers_51 rfl (lv_at hl 0 rfl) ?_
            refine lv_dup hx hb dX8_gatherHearers_52 rfl ?_
            refine va_get (D := (dC, dI)) (ci := 5) (v := .int (s9_9.1 0)) (C := RX8) (T := TX8) (N := 9) hx hb hts hin8 hown hK hP 0 rfl rfl 4 (by decide) fl24 (fun _ h9 => h9) rfl dX8_gatherHearers_53 ?_
            refine lv_iconst (v := 1) hx hb dX8_gatherHearers_56 (by decide) ?_
            refine lv_iadd hx hb dX8_gatherHearers_57 ?_
            refine va_put (D := (dC, dI)) (ci := 5) (v := .int ((s9_9.1 0) + 1)) (ty := .int) (C := RX8) (T := TX8) (N := 9) hx hb hts hin8 tyX8 tyX8_ok nmX8 hown hK hP (gD_va hD rfl) hS 0 rfl rfl 4 (by decide) fl24 (fun _ h9 => h9) rfl (by decide +kernel) rfl rfl (Nat.le_of_ble_eq_true rfl) dX8_gatherHearers_58 (fun H locs hP _ hS => ?_)
            obtain ⟨s9_10, es9_10⟩ : ∃ z9 : SS, z9 = ssi s9_9 0 ((s9_9.1 0) + 1) := ⟨_, rfl⟩
            have hP : va_P (dC, dI) vwCl (sw qs cI s9_10 ++ bw qb cI b_20) H := by rw [es9_10]; exact hP
            have hf := lt_eq es9_10 hf
            have hok := lt_ok es9_10 hok
            exact J_61 v2_20 v3_20 s9_10 b_20 _ _ hP hS _ (lv_sub hl [0, 1, 2, 3] rfl) hf hok
  refine lv_aload_n hx hb dX8_gatherHearers_0 rfl (lv_at hl 0 rfl) ?_
  refine lv_iconst (v := 0) hx hb dX8_gatherHearers_1 (by decide) ?_
  refine va_put (D := (dC, dI)) (ci := 5) (v := .int 0) (ty := .int) (C := RX8) (T := TX8) (N := 9) hx hb hts hin8 tyX8 tyX8_ok nmX8 hown hK hP (gD_va hD rfl) hS 0 rfl rfl 4 (by decide) fl24 (fun _ h9 => h9) rfl (by decide +kernel) rfl rfl (Nat.le_of_ble_eq_true rfl) dX8_gatherHearers_2 (fun H locs hP _ hS => ?_)
  obtain ⟨s9_1, es9_1⟩ : ∃ z9 : SS, z9 = ssi s9 0 0 := ⟨_, rfl⟩
  have hP : va_P (dC, dI) vwCl (sw qs cI s9_1 ++ bw qb cI b) H := by rw [es9_1]; exact hP
  have hf := lt_eq es9_1 hf
  have hok := lt_ok es9_1 hok
  refine lv_aload_n hx hb dX8_gatherHearers_5 rfl (lv_at hl 1 rfl) ?_
  refine va_get (D := (dC, dI)) (ci := 1) (v := .ref (qb 1)) (C := RX2) (T := TX2) (N := 8) hx hb hts hin2 hown hK hP 5 rfl rfl 4 (by decide) fl70 (fun _ h9 => h9) rfl dX8_gatherHearers_6 ?_
  refine va_get (D := (dC, dI)) (ci := 6) (v := .int (b.1 4)) (C := RX9) (T := TX9) (N := 4) hx hb hts hin9 hown hK hP 6 rfl rfl 3 (by decide) fl74 (fun _ h9 => h9) rfl dX8_gatherHearers_9 ?_
  refine lv_bipush (v := 8) hx hb dX8_gatherHearers_12 (by decide) ?_
  refine va_mmin hx hb (hml.trans hl.1.symm) hown ml52 ms52 mI mc52 (Nat.le_of_ble_eq_true rfl) (Nat.le_of_ble_eq_true rfl) (Nat.zero_le _) (Nat.zero_le _) dX8_gatherHearers_14 ?_
  refine lv_topi (fun x2 ex2 => ?_)
  have hf := lt_eq ex2 hf
  have hok := lt_ok ex2 hok
  refine lv_istore_n (lv' := [(2, .int x2), (0, .ref (qs 0)), (1, .ref (qb 0))]) hx hb dX8_gatherHearers_17 rfl hl (by decide) rfl (fun ls hl => ?_)
  refine lv_iconst (v := 0) hx hb dX8_gatherHearers_18 (by decide) ?_
  refine lv_istore_n (lv' := [(3, .int 0), (2, .int x2), (0, .ref (qs 0)), (1, .ref (qb 0))]) hx hb dX8_gatherHearers_19 rfl hl (by decide) rfl (fun ls hl => ?_)
  exact J_20 fu x2 0 s9_1 b _ _ hP hS _ (lv_sub hl [2, 3, 1, 0] rfl) hf hok
noncomputable def bX8_traceStarts_L2   (q_2 : Int32 → Int32 → SS → BS → (SS × BS)) (v2_2 : Int32) (v3_2 : Int32) (s9_2 : SS) (b_2 : BS) : SS × BS := if (s9_2.1 0) ≤ v3_2 then ((s9_2, b_2)) else (lt ((s9_2.2 2) v3_2.toNatClampNeg) fun (x2 : Int32) => lt (ssa s9_2 3 (upd (s9_2.2 3) v3_2.toNatClampNeg ((pX9_at 8 9 72 (b_2.1 4, b_2.2 0) x2 4) - (pX2_timeFromCell b_2 v2_2 x2)))) fun (s9_6 : SS) => lt (v3_2 + 1) fun (x7 : Int32) => q_2 v2_2 x7 s9_6 b_2)
noncomputable def pX8_traceStarts_L2   : Nat → Int32 → Int32 → SS → BS → (SS × BS)
  | 0 => fun _ _ s9_2 b_2 => (s9_2, b_2)
  | n + 1 => bX8_traceStarts_L2   (pX8_traceStarts_L2   n)
def kbX8_traceStarts_L2   (Q_2 : Int32 → Int32 → SS → BS → Prop) (v2_2 : Int32) (v3_2 : Int32) (s9_2 : SS) (b_2 : BS) : Prop := if (s9_2.1 0) ≤ v3_2 then (True) else ((vp_in v3_2 8) ∧ (lt ((s9_2.2 2) v3_2.toNatClampNeg) fun (x2 : Int32) => (kX9_at 8 9 72 (b_2.1 4, b_2.2 0) x2 4) ∧ ((kX2_timeFromCell b_2 v2_2 x2) ∧ ((vp_in v3_2 8) ∧ (lt (ssa s9_2 3 (upd (s9_2.2 3) v3_2.toNatClampNeg ((pX9_at 8 9 72 (b_2.1 4, b_2.2 0) x2 4) - (pX2_timeFromCell b_2 v2_2 x2)))) fun (s9_6 : SS) => lt (v3_2 + 1) fun (x7 : Int32) => Q_2 v2_2 x7 s9_6 b_2)))))
noncomputable def kX8_traceStarts_L2   : Nat → Int32 → Int32 → SS → BS → Prop
  | 0 => fun _ _ _ _ => False
  | n + 1 => kbX8_traceStarts_L2   (kX8_traceStarts_L2   n)
noncomputable def pX8_traceStarts (s9 : SS) (b : BS) (a2 : Int32) : SS × BS := pX8_traceStarts_L2 fu a2 0 s9 b
def kX8_traceStarts (s9 : SS) (b : BS) (a2 : Int32) : Prop := kX8_traceStarts_L2 fu a2 0 s9 b
abbrev rX8_traceStarts : Room := { frames := 3, cells := 0, slots := 0, locals := 72 }
set_option maxHeartbeats 4000000 in
set_option maxRecDepth 100000 in
theorem mX8_traceStarts (l : Launch) (dC : Nat → ClassId) (dI : Nat → Nat → Nat) (cI cB cO cL : ClassId) (qs : Nat → Nat) (qb : Nat → Nat) (s9 : SS) (b : BS) (a2 : Int32) (hI : gD (fun _ => True) (sAd qs ++ bAd qb)) (hok : kX8_traceStarts s9 b a2) : Met l yX8_traceStarts wsX8_traceStarts rX8_traceStarts (cP (dC, dI) (tYS cI cB cO cL) (sw qs cI s9 ++ bw qb cI b) [.ref (qs 0), .ref (qb 0), .int a2]) (gQv (dC, dI) (fun z9 : SS × BS => sw qs cI z9.1 ++ bw qb cI z9.2) (wA (sw qs cI s9 ++ bw qb cI b)) (pX8_traceStarts s9 b a2)) 0 0 (wA (sw qs cI s9 ++ bw qb cI b)) := by
  refine cMet (cc := cX8_traceStarts) (maxL := 5) (ret := none) [(0, .ref (qs 0)), (1, .ref (qb 0)), (2, .int a2)] (by decide) rfl rfl rfl ?_
  intro p e s mi below meth c C0 hK hE hP ls hl
  obtain ⟨hx, hb, hr, hml, hown, hts, hlocks⟩ := id C0
  have hown : s.vm.findClass RX8 = some mi.cls := hown
  have hS : va_S (wA (sw qs cI s9 ++ bw qb cI b)) s.heap s.heap [] := va_S.rf
  have hD : gD (wA (sw qs cI s9 ++ bw qb cI b)) (sAd qs ++ bAd qb) := gD_wA (ws := sw qs cI s9 ++ bw qb cI b) hI
  have hP : va_P (dC, dI) vwCl (sw qs cI s9 ++ bw qb cI b) s.heap := hP
  obtain ⟨F, hF⟩ : ∃ F, F = pX8_traceStarts s9 b a2 := ⟨_, rfl⟩
  have hf := hF
  have hin8 : ∀ w ∈ u_ws RX8 TX8 9, w ∈ wsX8_traceStarts := by decide +kernel
  have hin2 : ∀ w ∈ u_ws RX2 TX2 8, w ∈ wsX8_traceStarts := by decide +kernel
  have fl24 := hts (.fieldLink RX8 24 "ClickBench$Survey" "hearerCount" "I") (by decide +kernel)
  have fl18 := hts (.fieldLink RX8 18 "ClickBench$Survey" "hearers" "[I") (by decide +kernel)
  have fl21 := hts (.fieldLink RX8 21 "ClickBench$Survey" "starts" "[I") (by decide +kernel)
  have fl70 := hts (.fieldLink RX8 70 "ClickBench$Bench" "microphones" "LClickBench$Table;") (by decide +kernel)
  have J_2 : ∀ (n_2 : Nat) (v2_2 : Int32) (v3_2 : Int32) (s9_2 : SS) (b_2 : BS) (H : Heap) (locs : List Loc), va_P (dC, dI) vwCl (sw qs cI s9_2 ++ bw qb cI b_2) H → va_S (wA (sw qs cI s9 ++ bw qb cI b)) s.heap H locs → ∀ ls : Array Slot, lv_has ls 5 [(0, .ref (qs 0)), (1, .ref (qb 0)), (2, .int v2_2), (3, .int v3_2)] → F = pX8_traceStarts_L2 n_2 v2_2 v3_2 s9_2 b_2 → kX8_traceStarts_L2 n_2 v2_2 v3_2 s9_2 b_2 → W p l e rX8_traceStarts s mi ([.ref (qs 0), .ref (qb 0), .int a2] : List Value).toArray below meth c H locs 0 0 (MQ below (gQv (dC, dI) (fun z9 : SS × BS => sw qs cI z9.1 ++ bw qb cI z9.2) (wA (sw qs cI s9 ++ bw qb cI b)) (pX8_traceStarts s9 b a2)) ([.ref (qs 0), .ref (qb 0), .int a2] : List Value).toArray s 0 0 (wA (sw qs cI s9 ++ bw qb cI b))) (F0 mi 2 ls []) := by
    intro n_2
    induction n_2 with
    | zero =>
      intro v2_2 v3_2 s9_2 b_2 H locs hP hS ls hl hf hok
      exact absurd hok (fun h => h)
    | succ n_2 ih_2 =>
      intro v2_2 v3_2 s9_2 b_2 H locs hP hS ls hl hf hok
      have hf : F = bX8_traceStarts_L2 (pX8_traceStarts_L2 n_2) v2_2 v3_2 s9_2 b_2 := hf
      have hok : kbX8_traceStarts_L2 (kX8_traceStarts_L2 n_2) v2_2 v3_2 s9_2 b_2 := hok
      refine lv_iload_n hx hb dX8_traceStarts_2 rfl (lv_at hl 3 rfl) ?_
      refine lv_aload_n hx hb dX8_traceStarts_3 rfl (lv_at hl 0 rfl) ?_
      refine va_get (D := (dC, dI)) (ci := 5) (v := .int (s9_2.1 0)) (C := RX8) (T := TX8) (N := 9) hx hb hts hin8 hown hK hP 0 rfl rfl 4 (by decide) fl24 (fun _ h9 => h9) rfl dX8_traceStarts_4 ?_
      refine lv_icmp_ge (tgt := 48) hx hb dX8_traceStarts_7 (by decide) (fun c1 => ?_) (fun c1 => ?_)
      · have hf := it_eq c1 hf
        exact e_mv C0 (hf.symm.trans hF) hP hS dX8_traceStarts_48
      · have hf := ie_eq c1 hf
        have hok := ie_ok c1 hok
        refine lv_aload_n hx hb dX8_traceStarts_10 rfl (lv_at hl 0 rfl) ?_
        refine va_get (D := (dC, dI)) (ci := 5) (v := .ref (qs 3)) (C := RX8) (T := TX8) (N := 9) hx hb hts hin8 hown hK hP 0 rfl rfl 2 (by decide) fl18 (fun _ h9 => h9) rfl dX8_traceStarts_11 ?_
        refine lv_iload_n hx hb dX8_traceStarts_14 rfl (lv_at hl 3 rfl) ?_
        obtain ⟨h8, hok⟩ := hok
        refine va_iald (D := (dC, dI)) (tys := (tYS cI cB cO cL)) hx hb hK hP 3 0 rfl rfl h8 dX8_traceStarts_15 ?_
        refine lv_topi (fun x2 ex2 => ?_)
        have hf := lt_eq ex2 hf
        have hok := lt_ok ex2 hok
        refine lv_istore (lv' := [(4, .int x2), (0, .ref (qs 0)), (1, .ref (qb 0)), (2, .int v2_2), (3, .int v3_2)]) hx hb dX8_traceStarts_16 hl (by decide) rfl (fun ls hl => ?_)
        refine lv_aload_n hx hb dX8_traceStarts_18 rfl (lv_at hl 1 rfl) ?_
        refine va_get (D := (dC, dI)) (ci := 5) (v := .ref (qs 4)) (C := RX8) (T := TX8) (N := 9) hx hb hts hin8 hown hK hP 0 rfl rfl 3 (by decide) fl21 (fun _ h9 => h9) rfl dX8_traceStarts_19 ?_
        refine lv_iload_n hx hb dX8_traceStarts_22 rfl (lv_at hl 4 rfl) ?_
        refine lv_aload_n hx hb dX8_traceStarts_23 rfl (lv_at hl 2 rfl) ?_
        refine va_get (D := (dC, dI)) (ci := 1) (v := .ref (qb 1)) (C := RX2) (T := TX2) (N := 8) hx hb hts hin2 hown hK hP 5 rfl rfl 4 (by decide) fl70 (fun _ h9 => h9) rfl dX8_traceStarts_24 ?_
        refine lv_iload hx hb dX8_traceStarts_27 (lv_at hl 0 rfl) ?_
        refine lv_iconst (v := 4) hx hb dX8_traceStarts_29 (by decide) ?_
        obtain ⟨h3, hok⟩ := hok
        have hPc := hP.sub (ws' := tw (tad (qb 1) (qb 2)) cI 8 9 72 (b_2.1 4, b_2.2 0)) [6, 7] rfl
        refine gro_i (va_runV (As := [.int x2, .int 4]) (rest := [.int v3_2, .ref (qs 4)]) ⟨hx, hb, hml, hown, hts⟩ (mX9_at l dC dI cI cB cO cL (tad (qb 1) (qb 2)) 8 9 72 (b_2.1 4, b_2.2 0) x2 4  h3) (cwV 2 hts gX8_traceStarts_X9_at rfl rfl rfl (by decide +kernel) ⟨Nat.le_of_ble_eq_true rfl, Nat.le_of_ble_eq_true rfl⟩) ⟨cP_blind, va_recv hK hPc (ci := 6) (q0 := 0) rfl rfl, cP_ok hPc hK hE⟩ rfl rfl hl.1 rfl (lv_room (Nat.le_of_ble_eq_true rfl)) dX8_traceStarts_30 ⟨Nat.zero_le _, Nat.zero_le _⟩) ?_
        refine lv_aload_n hx hb dX8_traceStarts_33 rfl (lv_at hl 2 rfl) ?_
        refine lv_iload_n hx hb dX8_traceStarts_34 rfl (lv_at hl 3 rfl) ?_
        refine lv_iload hx hb dX8_traceStarts_35 (lv_at hl 0 rfl) ?_
        obtain ⟨h4, hok⟩ := hok
        have hPc := hP.sub (ws' := bw qb cI b_2) [5, 6, 7, 8, 9, 10, 11, 12, 13] rfl
        refine gro_i (va_runV (As := [.int v2_2, .int x2]) (rest := [.int (pX9_at 8 9 72 (b_2.1 4, b_2.2 0) x2 4), .int v3_2, .ref (qs 4)]) ⟨hx, hb, hml, hown, hts⟩ (mX2_timeFromCell l dC dI cI cB cO cL qb b_2 v2_2 x2  h4) (cwV 2 hts gX8_traceStarts_X2_timeFromCell rfl rfl rfl (by decide +kernel) ⟨Nat.le_of_ble_eq_true rfl, Nat.le_of_ble_eq_true rfl⟩) ⟨cP_blind, va_recv hK hPc (ci := 1) (q0 := 0) rfl rfl, cP_ok hPc hK hE⟩ rfl rfl hl.1 rfl (lv_room (Nat.le_of_ble_eq_true rfl)) dX8_traceStarts_37 ⟨Nat.zero_le _, Nat.zero_le _⟩) ?_
        refine lv_isub hx hb dX8_traceStarts_40 ?_
        obtain ⟨h5, hok⟩ := hok
        refine va_iast (D := (dC, dI)) (tys := (tYS cI cB cO cL)) hx hb hK hP (gD_va hD rfl) hS 4 0 rfl rfl h5 dX8_traceStarts_41 (fun H locs hP _ hS => ?_)
        obtain ⟨s9_6, es9_6⟩ : ∃ z9 : SS, z9 = ssa s9_2 3 (upd (s9_2.2 3) v3_2.toNatClampNeg ((pX9_at 8 9 72 (b_2.1 4, b_2.2 0) x2 4) - (pX2_timeFromCell b_2 v2_2 x2))) := ⟨_, rfl⟩
        have hP : va_P (dC, dI) vwCl (sw qs cI s9_6 ++ bw qb cI b_2) H := by rw [es9_6]; exact hP
        have hf := lt_eq es9_6 hf
        have hok := lt_ok es9_6 hok
        obtain ⟨x7, ex7⟩ : ∃ y : Int32, y = v3_2 + 1 := ⟨_, rfl⟩
        refine lv_iinc (v := x7) (lv' := [(3, .int x7), (4, .int x2), (0, .ref (qs 0)), (1, .ref (qb 0)), (2, .int v2_2)]) hx hb dX8_traceStarts_42 hl (k := 4) rfl (by rw [ex7]; rfl) (by decide) rfl (fun ls hl => ?_)
        have hf := lt_eq ex7 hf
        have hok := lt_ok ex7 hok
        refine lv_goto (tgt := 2) hx hb dX8_traceStarts_45 (by decide) ?_
        exact ih_2 v2_2 x7 s9_6 b_2 _ _ hP hS _ (lv_sub hl [2, 3, 4, 0] rfl) hf hok
  refine lv_iconst (v := 0) hx hb dX8_traceStarts_0 (by decide) ?_
  refine lv_istore_n (lv' := [(3, .int 0), (0, .ref (qs 0)), (1, .ref (qb 0)), (2, .int a2)]) hx hb dX8_traceStarts_1 rfl hl (by decide) rfl (fun ls hl => ?_)
  exact J_2 fu a2 0 s9 b _ _ hP hS _ (lv_sub hl [1, 2, 3, 0] rfl) hf hok
noncomputable def pX8_judge_L72  (q_22 : Int32 → Int32 → Int32 → Int32 → Int32 → SS → BS → (SS × BS)) (q_37 : Int32 → Int32 → Int32 → Int32 → Int32 → Int32 → SS → BS → (SS × BS)) (v2_72 : Int32) (v3_72 : Int32) (v4_72 : Int32) (v5_72 : Int32) (v6_72 : Int32) (v7_72 : Int32) (s9_72 : SS) (b_72 : BS) : SS × BS := lt (v7_72 + 1) fun (x18 : Int32) => q_37 v2_72 v3_72 v4_72 v5_72 v6_72 x18 s9_72 b_72
def kX8_judge_L72  (Q_22 : Int32 → Int32 → Int32 → Int32 → Int32 → SS → BS → Prop) (Q_37 : Int32 → Int32 → Int32 → Int32 → Int32 → Int32 → SS → BS → Prop) (v2_72 : Int32) (v3_72 : Int32) (v4_72 : Int32) (v5_72 : Int32) (v6_72 : Int32) (v7_72 : Int32) (s9_72 : SS) (b_72 : BS) : Prop := lt (v7_72 + 1) fun (x18 : Int32) => Q_37 v2_72 v3_72 v4_72 v5_72 v6_72 x18 s9_72 b_72
noncomputable def bX8_judge_L37  (q_22 : Int32 → Int32 → Int32 → Int32 → Int32 → SS → BS → (SS × BS)) (q_37 : Int32 → Int32 → Int32 → Int32 → Int32 → Int32 → SS → BS → (SS × BS)) (v2_37 : Int32) (v3_37 : Int32) (v4_37 : Int32) (v5_37 : Int32) (v6_37 : Int32) (v7_37 : Int32) (s9_37 : SS) (b_37 : BS) : SS × BS := if (s9_37.1 0) ≤ v7_37 then (lt (v6_37 + 1) fun (x13 : Int32) => q_22 v2_37 v3_37 v4_37 v5_37 x13 s9_37 b_37) else (lt (pX8_gapOf s9_37 v6_37 v7_37) fun (x15 : Int32) => lt (v5_37 + x15) fun (x16 : Int32) => if v3_37 < x15 then (pX8_judge_L72 q_22 q_37 v2_37 v3_37 v4_37 x16 v6_37 v7_37 s9_37 b_37) else (lt (v4_37 + 1) fun (x19 : Int32) => pX8_judge_L72 q_22 q_37 v2_37 v3_37 x19 x16 v6_37 v7_37 s9_37 b_37))
noncomputable def pX8_judge_L37  (q_22 : Int32 → Int32 → Int32 → Int32 → Int32 → SS → BS → (SS × BS)) : Nat → Int32 → Int32 → Int32 → Int32 → Int32 → Int32 → SS → BS → (SS × BS)
  | 0 => fun _ _ _ _ _ _ s9_37 b_37 => (s9_37, b_37)
  | n + 1 => bX8_judge_L37  q_22 (pX8_judge_L37  q_22 n)
def kbX8_judge_L37  (Q_22 : Int32 → Int32 → Int32 → Int32 → Int32 → SS → BS → Prop) (Q_37 : Int32 → Int32 → Int32 → Int32 → Int32 → Int32 → SS → BS → Prop) (v2_37 : Int32) (v3_37 : Int32) (v4_37 : Int32) (v5_37 : Int32) (v6_37 : Int32) (v7_37 : Int32) (s9_37 : SS) (b_37 : BS) : Prop := if (s9_37.1 0) ≤ v7_37 then (lt (v6_37 + 1) fun (x13 : Int32) => Q_22 v2_37 v3_37 v4_37 v5_37 x13 s9_37 b_37) else ((kX8_gapOf s9_37 v6_37 v7_37) ∧ (lt (pX8_gapOf s9_37 v6_37 v7_37) fun (x15 : Int32) => lt (v5_37 + x15) fun (x16 : Int32) => if v3_37 < x15 then (kX8_judge_L72 Q_22 Q_37 v2_37 v3_37 v4_37 x16 v6_37 v7_37 s9_37 b_37) else (lt (v4_37 + 1) fun (x19 : Int32) => kX8_judge_L72 Q_22 Q_37 v2_37 v3_37 x19 x16 v6_37 v7_37 s9_37 b_37)))
noncomputable def kX8_judge_L37  (Q_22 : Int32 → Int32 → Int32 → Int32 → Int32 → SS → BS → Prop) : Nat → Int32 → Int32 → Int32 → Int32 → Int32 → Int32 → SS → BS → Prop
  | 0 => fun _ _ _ _ _ _ _ _ => False
  | n + 1 => kbX8_judge_L37  Q_22 (kX8_judge_L37  Q_22 n)
noncomputable def bX8_judge_L22   (q_22 : Int32 → Int32 → Int32 → Int32 → Int32 → SS → BS → (SS × BS)) (v2_22 : Int32) (v3_22 : Int32) (v4_22 : Int32) (v5_22 : Int32) (v6_22 : Int32) (s9_22 : SS) (b_22 : BS) : SS × BS := if (s9_22.1 0) ≤ v6_22 then (lt (ssa s9_22 0 (upd (s9_22.2 0) v2_22.toNatClampNeg v4_22)) fun (s9_8 : SS) => lt (ssa s9_8 1 (upd (s9_8.2 1) v2_22.toNatClampNeg v5_22)) fun (s9_10 : SS) => (s9_10, b_22)) else (lt (v6_22 + 1) fun (x11 : Int32) => pX8_judge_L37 q_22 fu v2_22 v3_22 v4_22 v5_22 v6_22 x11 s9_22 b_22)
noncomputable def pX8_judge_L22   : Nat → Int32 → Int32 → Int32 → Int32 → Int32 → SS → BS → (SS × BS)
  | 0 => fun _ _ _ _ _ s9_22 b_22 => (s9_22, b_22)
  | n + 1 => bX8_judge_L22   (pX8_judge_L22   n)
def kbX8_judge_L22   (Q_22 : Int32 → Int32 → Int32 → Int32 → Int32 → SS → BS → Prop) (v2_22 : Int32) (v3_22 : Int32) (v4_22 : Int32) (v5_22 : Int32) (v6_22 : Int32) (s9_22 : SS) (b_22 : BS) : Prop := if (s9_22.1 0) ≤ v6_22 then ((vp_in v2_22 400) ∧ (lt (ssa s9_22 0 (upd (s9_22.2 0) v2_22.toNatClampNeg v4_22)) fun (s9_8 : SS) => vp_in v2_22 400)) else (lt (v6_22 + 1) fun (x11 : Int32) => kX8_judge_L37 Q_22 fu v2_22 v3_22 v4_22 v5_22 v6_22 x11 s9_22 b_22)
noncomputable def kX8_judge_L22   : Nat → Int32 → Int32 → Int32 → Int32 → Int32 → SS → BS → Prop
  | 0 => fun _ _ _ _ _ _ _ => False
  | n + 1 => kbX8_judge_L22   (kX8_judge_L22   n)
noncomputable def pX8_judge (s9 : SS) (b : BS) (a2 : Int32) : SS × BS := lt (pX8_traceStarts s9 b a2) fun (u3 : SS × BS) => lt (pX2_setting u3.2 6) fun (x5 : Int32) => pX8_judge_L22 fu a2 x5 0 0 0 u3.1 u3.2
def kX8_judge (s9 : SS) (b : BS) (a2 : Int32) : Prop := (kX8_traceStarts s9 b a2) ∧ (lt (pX8_traceStarts s9 b a2) fun (u3 : SS × BS) => (kX2_setting u3.2 6) ∧ (lt (pX2_setting u3.2 6) fun (x5 : Int32) => kX8_judge_L22 fu a2 x5 0 0 0 u3.1 u3.2))
abbrev rX8_judge : Room := { frames := 4, cells := 0, slots := 0, locals := 96 }
set_option maxHeartbeats 4000000 in
set_option maxRecDepth 100000 in
theorem mX8_judge (l : Launch) (dC : Nat → ClassId) (dI : Nat → Nat → Nat) (cI cB cO cL : ClassId) (qs : Nat → Nat) (qb : Nat → Nat) (s9 : SS) (b : BS) (a2 : Int32) (hI : gD (fun _ => True) (sAd qs ++ bAd qb)) (hok : kX8_judge s9 b a2) : Met l yX8_judge wsX8_judge rX8_judge (cP (dC, dI) (tYS cI cB cO cL) (sw qs cI s9 ++ bw qb cI b) [.ref (qs 0), .ref (qb 0), .int a2]) (gQv (dC, dI) (fun z9 : SS × BS => sw qs cI z9.1 ++ bw qb cI z9.2) (wA (sw qs cI s9 ++ bw qb cI b)) (pX8_judge s9 b a2)) 0 0 (wA (sw qs cI s9 ++ bw qb cI b)) := by
  refine cMet (cc := cX8_judge) (maxL := 9) (ret := none) [(0, .ref (qs 0)), (1, .ref (qb 0)), (2, .int a2)] (by decide) rfl rfl rfl ?_
  intro p e s mi below meth c C0 hK hE hP ls hl
  obtain ⟨hx, hb, hr, hml, hown, hts, hlocks⟩ := id C0
  have hown : s.vm.findClass RX8 = some mi.cls := hown
  have hS : va_S (wA (sw qs cI s9 ++ bw qb cI b)) s.heap s.heap [] := va_S.rf
  have hD : gD (wA (sw qs cI s9 ++ bw qb cI b)) (sAd qs ++ bAd qb) := gD_wA (ws := sw qs cI s9 ++ bw qb cI b) hI
  have hP : va_P (dC, dI) vwCl (sw qs cI s9 ++ bw qb cI b) s.heap := hP
  obtain ⟨F, hF⟩ : ∃ F, F = pX8_judge s9 b a2 := ⟨_, rfl⟩
  have hf := hF
  have hin8 : ∀ w ∈ u_ws RX8 TX8 9, w ∈ wsX8_judge := by decide +kernel
  have fl24 := hts (.fieldLink RX8 24 "ClickBench$Survey" "hearerCount" "I") (by decide +kernel)
  have fl9 := hts (.fieldLink RX8 9 "ClickBench$Survey" "votes" "[I") (by decide +kernel)
  have fl15 := hts (.fieldLink RX8 15 "ClickBench$Survey" "errors" "[I") (by decide +kernel)
  have J_22 : ∀ (n_22 : Nat) (v2_22 : Int32) (v3_22 : Int32) (v4_22 : Int32) (v5_22 : Int32) (v6_22 : Int32) (s9_22 : SS) (b_22 : BS) (H : Heap) (locs : List Loc), va_P (dC, dI) vwCl (sw qs cI s9_22 ++ bw qb cI b_22) H → va_S (wA (sw qs cI s9 ++ bw qb cI b)) s.heap H locs → ∀ ls : Array Slot, lv_has ls 9 [(0, .ref (qs 0)), (2, .int v2_22), (3, .int v3_22), (4, .int v4_22), (5, .int v5_22), (6, .int v6_22)] → F = pX8_judge_L22 n_22 v2_22 v3_22 v4_22 v5_22 v6_22 s9_22 b_22 → kX8_judge_L22 n_22 v2_22 v3_22 v4_22 v5_22 v6_22 s9_22 b_22 → W p l e rX8_judge s mi ([.ref (qs 0), .ref (qb 0), .int a2] : List Value).toArray below meth c H locs 0 0 (MQ below (gQv (dC, dI) (fun z9 : SS × BS => sw qs cI z9.1 ++ bw qb cI z9.2) (wA (sw qs cI s9 ++ bw qb cI b)) (pX8_judge s9 b a2)) ([.ref (qs 0), .ref (qb 0), .int a2] : List Value).toArray s 0 0 (wA (sw qs cI s9 ++ bw qb cI b))) (F0 mi 22 ls []) := by
    intro n_22
    induction n_22 with
    | zero =>
      intro v2_22 v3_22 v4_22 v5_22 v6_22 s9_22 b_22 H locs hP hS ls hl hf hok
      exact absurd hok (fun h => h)
    | succ n_22 ih_22 =>
      have J_37 : ∀ (n_37 : Nat) (v2_37 : Int32) (v3_37 : Int32) (v4_37 : Int32) (v5_37 : Int32) (v6_37 : Int32) (v7_37 : Int32) (s9_37 : SS) (b_37 : BS) (H : Heap) (locs : List Loc), va_P (dC, dI) vwCl (sw qs cI s9_37 ++ bw qb cI b_37) H → va_S (wA (sw qs cI s9 ++ bw qb cI b)) s.heap H locs → ∀ ls : Array Slot, lv_has ls 9 [(0, .ref (qs 0)), (2, .int v2_37), (3, .int v3_37), (4, .int v4_37), (5, .int v5_37), (6, .int v6_37), (7, .int v7_37)] → F = pX8_judge_L37 (pX8_judge_L22 n_22) n_37 v2_37 v3_37 v4_37 v5_37 v6_37 v7_37 s9_37 b_37 → kX8_judge_L37 (kX8_judge_L22 n_22) n_37 v2_37 v3_37 v4_37 v5_37 v6_37 v7_37 s9_37 b_37 → W p l e rX8_judge s mi ([.ref (qs 0), .ref (qb 0), .int a2] : List Value).toArray below meth c H locs 0 0 (MQ below (gQv (dC, dI) (fun z9 : SS × BS => sw qs cI z9.1 ++ bw qb cI z9.2) (wA (sw qs cI s9 ++ bw qb cI b)) (pX8_judge s9 b a2)) ([.ref (qs 0), .ref (qb 0), .int a2] : List Value).toArray s 0 0 (wA (sw qs cI s9 ++ bw qb cI b))) (F0 mi 37 ls []) := by
        intro n_37
        induction n_37 with
        | zero =>
          intro v2_37 v3_37 v4_37 v5_37 v6_37 v7_37 s9_37 b_37 H locs hP hS ls hl hf hok
          exact absurd hok (fun h => h)
        | succ n_37 ih_37 =>
          have J_72 : ∀ (v2_72 : Int32) (v3_72 : Int32) (v4_72 : Int32) (v5_72 : Int32) (v6_72 : Int32) (v7_72 : Int32) (s9_72 : SS) (b_72 : BS) (H : Heap) (locs : List Loc), va_P (dC, dI) vwCl (sw qs cI s9_72 ++ bw qb cI b_72) H → va_S (wA (sw qs cI s9 ++ bw qb cI b)) s.heap H locs → ∀ ls : Array Slot, lv_has ls 9 [(0, .ref (qs 0)), (2, .int v2_72), (3, .int v3_72), (4, .int v4_72), (5, .int v5_72), (6, .int v6_72), (7, .int v7_72)] → F = pX8_judge_L72 (pX8_judge_L22 n_22) (pX8_judge_L37 (pX8_judge_L22 n_22) n_37) v2_72 v3_72 v4_72 v5_72 v6_72 v7_72 s9_72 b_72 → kX8_judge_L72 (kX8_judge_L22 n_22) (kX8_judge_L37 (kX8_judge_L22 n_22) n_37) v2_72 v3_72 v4_72 v5_72 v6_72 v7_72 s9_72 b_72 → W p l e rX8_judge s mi ([.ref (qs 0), .ref (qb 0), .int a2] : List Value).toArray below meth c H locs 0 0 (MQ below (gQv (dC, dI) (fun z9 : SS × BS => sw qs cI z9.1 ++ bw qb cI z9.2) (wA (sw qs cI s9 ++ bw qb cI b)) (pX8_judge s9 b a2)) ([.ref (qs 0), .ref (qb 0), .int a2] : List Value).toArray s 0 0 (wA (sw qs cI s9 ++ bw qb cI b))) (F0 mi 72 ls []) := by
            intro v2_72 v3_72 v4_72 v5_72 v6_72 v7_72 s9_72 b_72 H locs hP hS ls hl hf hok
            obtain ⟨x18, ex18⟩ : ∃ y : Int32, y = v7_72 + 1 := ⟨_, rfl⟩
            refine lv_iinc (v := x18) (lv' := [(7, .int x18), (0, .ref (qs 0)), (2, .int v2_72), (3, .int v3_72), (4, .int v4_72), (5, .int v5_72), (6, .int v6_72)]) hx hb dX8_judge_72 hl (k := 6) rfl (by rw [ex18]; rfl) (by decide) rfl (fun ls hl => ?_)
            have hf := lt_eq ex18 hf
            have hok := lt_ok ex18 hok
            refine lv_goto (tgt := 37) hx hb dX8_judge_75 (by decide) ?_
            exact ih_37 v2_72 v3_72 v4_72 v5_72 v6_72 x18 s9_72 b_72 _ _ hP hS _ (lv_sub hl [1, 2, 3, 4, 5, 6, 0] rfl) hf hok
          intro v2_37 v3_37 v4_37 v5_37 v6_37 v7_37 s9_37 b_37 H locs hP hS ls hl hf hok
          have hf : F = bX8_judge_L37 (pX8_judge_L22 n_22) (pX8_judge_L37 (pX8_judge_L22 n_22) n_37) v2_37 v3_37 v4_37 v5_37 v6_37 v7_37 s9_37 b_37 := hf
          have hok : kbX8_judge_L37 (kX8_judge_L22 n_22) (kX8_judge_L37 (kX8_judge_L22 n_22) n_37) v2_37 v3_37 v4_37 v5_37 v6_37 v7_37 s9_37 b_37 := hok
          refine lv_iload hx hb dX8_judge_37 (lv_at hl 6 rfl) ?_
          refine lv_aload_n hx hb dX8_judge_39 rfl (lv_at hl 0 rfl) ?_
          refine va_get (D := (dC, dI)) (ci := 5) (v := .int (s9_37.1 0)) (C := RX8) (T := TX8) (N := 9) hx hb hts hin8 hown hK hP 0 rfl rfl 4 (by decide) fl24 (fun _ h9 => h9) rfl dX8_judge_40 ?_
          refine lv_icmp_ge (tgt := 78) hx hb dX8_judge_43 (by decide) (fun c12 => ?_) (fun c12 => ?_)
          · have hf := it_eq c12 hf
            have hok := it_ok c12 hok
            obtain ⟨x13, ex13⟩ : ∃ y : Int32, y = v6_37 + 1 := ⟨_, rfl⟩
            refine lv_iinc (v := x13) (lv' := [(6, .int x13), (0, .ref (qs 0)), (2, .int v2_37), (3, .int v3_37), (4, .int v4_37), (5, .int v5_37), (7, .int v7_37)]) hx hb dX8_judge_78 hl (k := 5) rfl (by rw [ex13]; rfl) (by decide) rfl (fun ls hl => ?_)
            have hf := lt_eq ex13 hf
            have hok := lt_ok ex13 hok
            refine lv_goto (tgt := 22) hx hb dX8_judge_81 (by decide) ?_
            exact ih_22 v2_37 v3_37 v4_37 v5_37 x13 s9_37 b_37 _ _ hP hS _ (lv_sub hl [1, 2, 3, 4, 5, 0] rfl) hf hok
          · have hf := ie_eq c12 hf
            have hok := ie_ok c12 hok
            refine lv_aload_n hx hb dX8_judge_46 rfl (lv_at hl 0 rfl) ?_
            refine lv_iload hx hb dX8_judge_47 (lv_at hl 5 rfl) ?_
            refine lv_iload hx hb dX8_judge_49 (lv_at hl 6 rfl) ?_
            obtain ⟨h14, hok⟩ := hok
            have hPc := hP.sub (ws' := sw qs cI s9_37) [0, 1, 2, 3, 4] rfl
            refine gro_i (va_runV (As := [.int v6_37, .int v7_37]) (rest := []) ⟨hx, hb, hml, hown, hts⟩ (mX8_gapOf l dC dI cI cB cO cL qs s9_37 v6_37 v7_37  h14) (cwV 2 hts gX8_judge_X8_gapOf rfl rfl rfl (by decide +kernel) ⟨Nat.le_of_ble_eq_true rfl, Nat.le_of_ble_eq_true rfl⟩) ⟨cP_blind, va_recv hK hPc (ci := 5) (q0 := 0) rfl rfl, cP_ok hPc hK hE⟩ rfl rfl hl.1 rfl (lv_room (Nat.le_of_ble_eq_true rfl)) dX8_judge_51 ⟨Nat.zero_le _, Nat.zero_le _⟩) ?_
            refine lv_topi (fun x15 ex15 => ?_)
            have hf := lt_eq ex15 hf
            have hok := lt_ok ex15 hok
            refine lv_istore (lv' := [(8, .int x15), (0, .ref (qs 0)), (2, .int v2_37), (3, .int v3_37), (4, .int v4_37), (5, .int v5_37), (6, .int v6_37), (7, .int v7_37)]) hx hb dX8_judge_54 hl (by decide) rfl (fun ls hl => ?_)
            refine lv_iload hx hb dX8_judge_56 (lv_at hl 5 rfl) ?_
            refine lv_iload hx hb dX8_judge_58 (lv_at hl 0 rfl) ?_
            refine lv_iadd hx hb dX8_judge_60 ?_
            refine lv_topi (fun x16 ex16 => ?_)
            have hf := lt_eq ex16 hf
            have hok := lt_ok ex16 hok
            refine lv_istore (lv' := [(5, .int x16), (8, .int x15), (0, .ref (qs 0)), (2, .int v2_37), (3, .int v3_37), (4, .int v4_37), (6, .int v6_37), (7, .int v7_37)]) hx hb dX8_judge_61 hl (by decide) rfl (fun ls hl => ?_)
            refine lv_iload hx hb dX8_judge_63 (lv_at hl 1 rfl) ?_
            refine lv_iload_n hx hb dX8_judge_65 rfl (lv_at hl 4 rfl) ?_
            refine lv_icmp_gt (tgt := 72) hx hb dX8_judge_66 (by decide) (fun c17 => ?_) (fun c17 => ?_)
            · have hf := it_eq c17 hf
              have hok := it_ok c17 hok
              exact J_72 v2_37 v3_37 v4_37 x16 v6_37 v7_37 s9_37 b_37 _ _ hP hS _ (lv_sub hl [2, 3, 4, 5, 0, 6, 7] rfl) hf hok
            · have hf := ie_eq c17 hf
              have hok := ie_ok c17 hok
              obtain ⟨x19, ex19⟩ : ∃ y : Int32, y = v4_37 + 1 := ⟨_, rfl⟩
              refine lv_iinc (v := x19) (lv' := [(4, .int x19), (5, .int x16), (8, .int x15), (0, .ref (qs 0)), (2, .int v2_37), (3, .int v3_37), (6, .int v6_37), (7, .int v7_37)]) hx hb dX8_judge_69 hl (k := 5) rfl (by rw [ex19]; rfl) (by decide) rfl (fun ls hl => ?_)
              have hf := lt_eq ex19 hf
              have hok := lt_ok ex19 hok
              exact J_72 v2_37 v3_37 x19 x16 v6_37 v7_37 s9_37 b_37 _ _ hP hS _ (lv_sub hl [3, 4, 5, 0, 1, 6, 7] rfl) hf hok
      intro v2_22 v3_22 v4_22 v5_22 v6_22 s9_22 b_22 H locs hP hS ls hl hf hok
      have hf : F = bX8_judge_L22 (pX8_judge_L22 n_22) v2_22 v3_22 v4_22 v5_22 v6_22 s9_22 b_22 := hf
      have hok : kbX8_judge_L22 (kX8_judge_L22 n_22) v2_22 v3_22 v4_22 v5_22 v6_22 s9_22 b_22 := hok
      refine lv_iload hx hb dX8_judge_22 (lv_at hl 5 rfl) ?_
      refine lv_aload_n hx hb dX8_judge_24 rfl (lv_at hl 0 rfl) ?_
      refine va_get (D := (dC, dI)) (ci := 5) (v := .int (s9_22.1 0)) (C := RX8) (T := TX8) (N := 9) hx hb hts hin8 hown hK hP 0 rfl rfl 4 (by decide) fl24 (fun _ h9 => h9) rfl dX8_judge_25 ?_
      refine lv_icmp_ge (tgt := 84) hx hb dX8_judge_28 (by decide) (fun c6 => ?_) (fun c6 => ?_)
      · have hf := it_eq c6 hf
        have hok := it_ok c6 hok
        refine lv_aload_n hx hb dX8_judge_84 rfl (lv_at hl 0 rfl) ?_
        refine va_get (D := (dC, dI)) (ci := 5) (v := .ref (qs 1)) (C := RX8) (T := TX8) (N := 9) hx hb hts hin8 hown hK hP 0 rfl rfl 0 (by decide) fl9 (fun _ h9 => h9) rfl dX8_judge_85 ?_
        refine lv_iload_n hx hb dX8_judge_88 rfl (lv_at hl 1 rfl) ?_
        refine lv_iload hx hb dX8_judge_89 (lv_at hl 3 rfl) ?_
        obtain ⟨h7, hok⟩ := hok
        refine va_iast (D := (dC, dI)) (tys := (tYS cI cB cO cL)) hx hb hK hP (gD_va hD rfl) hS 1 0 rfl rfl h7 dX8_judge_91 (fun H locs hP _ hS => ?_)
        obtain ⟨s9_8, es9_8⟩ : ∃ z9 : SS, z9 = ssa s9_22 0 (upd (s9_22.2 0) v2_22.toNatClampNeg v4_22) := ⟨_, rfl⟩
        have hP : va_P (dC, dI) vwCl (sw qs cI s9_8 ++ bw qb cI b_22) H := by rw [es9_8]; exact hP
        have hf := lt_eq es9_8 hf
        have hok := lt_ok es9_8 hok
        refine lv_aload_n hx hb dX8_judge_92 rfl (lv_at hl 0 rfl) ?_
        refine va_get (D := (dC, dI)) (ci := 5) (v := .ref (qs 2)) (C := RX8) (T := TX8) (N := 9) hx hb hts hin8 hown hK hP 0 rfl rfl 1 (by decide) fl15 (fun _ h9 => h9) rfl dX8_judge_93 ?_
        refine lv_iload_n hx hb dX8_judge_96 rfl (lv_at hl 1 rfl) ?_
        refine lv_iload hx hb dX8_judge_97 (lv_at hl 4 rfl) ?_
        have h9 : vp_in v2_22 400 := hok
        refine va_iast (D := (dC, dI)) (tys := (tYS cI cB cO cL)) hx hb hK hP (gD_va hD rfl) hS 2 0 rfl rfl h9 dX8_judge_99 (fun H locs hP _ hS => ?_)
        obtain ⟨s9_10, es9_10⟩ : ∃ z9 : SS, z9 = ssa s9_8 1 (upd (s9_8.2 1) v2_22.toNatClampNeg v5_22) := ⟨_, rfl⟩
        have hP : va_P (dC, dI) vwCl (sw qs cI s9_10 ++ bw qb cI b_22) H := by rw [es9_10]; exact hP
        have hf := lt_eq es9_10 hf
        exact e_mv C0 (hf.symm.trans hF) hP hS dX8_judge_100
      · have hf := ie_eq c6 hf
        have hok := ie_ok c6 hok
        refine lv_iload hx hb dX8_judge_31 (lv_at hl 5 rfl) ?_
        refine lv_iconst (v := 1) hx hb dX8_judge_33 (by decide) ?_
        refine lv_iadd hx hb dX8_judge_34 ?_
        refine lv_topi (fun x11 ex11 => ?_)
        have hf := lt_eq ex11 hf
        have hok := lt_ok ex11 hok
        refine lv_istore (lv' := [(7, .int x11), (0, .ref (qs 0)), (2, .int v2_22), (3, .int v3_22), (4, .int v4_22), (5, .int v5_22), (6, .int v6_22)]) hx hb dX8_judge_35 hl (by decide) rfl (fun ls hl => ?_)
        exact J_37 fu v2_22 v3_22 v4_22 v5_22 v6_22 x11 s9_22 b_22 _ _ hP hS _ (lv_sub hl [1, 2, 3, 4, 5, 6, 0] rfl) hf hok
  refine lv_aload_n hx hb dX8_judge_0 rfl (lv_at hl 0 rfl) ?_
  refine lv_aload_n hx hb dX8_judge_1 rfl (lv_at hl 1 rfl) ?_
  refine lv_iload_n hx hb dX8_judge_2 rfl (lv_at hl 2 rfl) ?_
  obtain ⟨h1, hok⟩ := hok
  refine gms_v (va_runV (As := [.ref (qb 0), .int a2]) (rest := []) ⟨hx, hb, hml, hown, hts⟩ (mX8_traceStarts l dC dI cI cB cO cL qs qb s9 b a2 (gD_any hD) h1) (cwV 2 hts gX8_judge_X8_traceStarts rfl rfl rfl (by decide +kernel) ⟨Nat.le_of_ble_eq_true rfl, Nat.le_of_ble_eq_true rfl⟩) ⟨cP_blind, va_recv hK hP (ci := 5) (q0 := 0) rfl rfl, cP_ok hP hK hE⟩ rfl rfl hl.1 rfl (lv_room (Nat.le_of_ble_eq_true rfl)) dX8_judge_3 ⟨Nat.zero_le _, Nat.zero_le _⟩) hP (gD_va hD rfl) hS (fun u3 H locs hw hP hS => ?_)
  have hP : va_P (dC, dI) vwCl (sw qs cI u3.1 ++ bw qb cI u3.2) H := hP
  have hf := lt_eq hw hf
  have hok := lt_ok hw hok
  refine lv_aload_n hx hb dX8_judge_6 rfl (lv_at hl 1 rfl) ?_
  refine lv_bipush (v := 6) hx hb dX8_judge_7 (by decide) ?_
  obtain ⟨h4, hok⟩ := hok
  have hPc := hP.sub (ws' := bw qb cI u3.2) [5, 6, 7, 8, 9, 10, 11, 12, 13] rfl
  refine gro_i (va_runV (As := [.int 6]) (rest := []) ⟨hx, hb, hml, hown, hts⟩ (mX2_setting l dC dI cI cB cO cL qb u3.2 6  h4) (cwV 1 hts gX8_judge_X2_setting rfl rfl rfl (by decide +kernel) ⟨Nat.le_of_ble_eq_true rfl, Nat.le_of_ble_eq_true rfl⟩) ⟨cP_blind, va_recv hK hPc (ci := 1) (q0 := 0) rfl rfl, cP_ok hPc hK hE⟩ rfl rfl hl.1 rfl (lv_room (Nat.le_of_ble_eq_true rfl)) dX8_judge_9 ⟨Nat.zero_le _, Nat.zero_le _⟩) ?_
  refine lv_topi (fun x5 ex5 => ?_)
  have hf := lt_eq ex5 hf
  have hok := lt_ok ex5 hok
  refine lv_istore_n (lv' := [(3, .int x5), (0, .ref (qs 0)), (1, .ref (qb 0)), (2, .int a2)]) hx hb dX8_judge_12 rfl hl (by decide) rfl (fun ls hl => ?_)
  refine lv_iconst (v := 0) hx hb dX8_judge_13 (by decide) ?_
  refine lv_istore (lv' := [(4, .int 0), (3, .int x5), (0, .ref (qs 0)), (1, .ref (qb 0)), (2, .int a2)]) hx hb dX8_judge_14 hl (by decide) rfl (fun ls hl => ?_)
  refine lv_iconst (v := 0) hx hb dX8_judge_16 (by decide) ?_
  refine lv_istore (lv' := [(5, .int 0), (4, .int 0), (3, .int x5), (0, .ref (qs 0)), (1, .ref (qb 0)), (2, .int a2)]) hx hb dX8_judge_17 hl (by decide) rfl (fun ls hl => ?_)
  refine lv_iconst (v := 0) hx hb dX8_judge_19 (by decide) ?_
  refine lv_istore (lv' := [(6, .int 0), (5, .int 0), (4, .int 0), (3, .int x5), (0, .ref (qs 0)), (1, .ref (qb 0)), (2, .int a2)]) hx hb dX8_judge_20 hl (by decide) rfl (fun ls hl => ?_)
  exact J_22 fu a2 x5 0 0 0 u3.1 u3.2 _ _ hP hS _ (lv_sub hl [4, 6, 3, 2, 1, 0] rfl) hf hok
