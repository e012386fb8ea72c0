noncomputable def pX8_sumOfTied_L53 (s9 : SS) (b : BS) (q_5 : Bool → Int32 → Int32 → Int32) (v2_53 : Bool) (v3_53 : Int32) (v4_53 : Int32) : Int32 := lt (v4_53 + 1) fun (x5 : Int32) => q_5 v2_53 v3_53 x5
def kX8_sumOfTied_L53 (s9 : SS) (b : BS) (Q_5 : Bool → Int32 → Int32 → Prop) (v2_53 : Bool) (v3_53 : Int32) (v4_53 : Int32) : Prop := lt (v4_53 + 1) fun (x5 : Int32) => Q_5 v2_53 v3_53 x5
noncomputable def pX8_sumOfTied_L51 (s9 : SS) (b : BS) (q_5 : Bool → Int32 → Int32 → Int32) (v2_51 : Bool) (v4_51 : Int32) (t0_51 : Int32) (t1_51 : Int32) : Int32 := lt (t0_51 + t1_51) fun (x8 : Int32) => pX8_sumOfTied_L53 s9 b q_5 v2_51 x8 v4_51
def kX8_sumOfTied_L51 (s9 : SS) (b : BS) (Q_5 : Bool → Int32 → Int32 → Prop) (v2_51 : Bool) (v4_51 : Int32) (t0_51 : Int32) (t1_51 : Int32) : Prop := lt (t0_51 + t1_51) fun (x8 : Int32) => kX8_sumOfTied_L53 s9 b Q_5 v2_51 x8 v4_51
noncomputable def bX8_sumOfTied_L5 (s9 : SS) (b : BS)  (q_5 : Bool → Int32 → Int32 → Int32) (v2_5 : Bool) (v3_5 : Int32) (v4_5 : Int32) : Int32 := if (pX2_cellCount b) ≤ v4_5 then (v3_5) else (if (pX8_votesOf s9 v4_5) = (pX8_votesOf s9 (s9.1 1)) then (if v2_5 = true then (pX8_sumOfTied_L51 s9 b q_5 v2_5 v4_5 v3_5 (pX2_rowOf b v4_5)) else (pX8_sumOfTied_L51 s9 b q_5 v2_5 v4_5 v3_5 (pX2_columnOf b v4_5))) else (pX8_sumOfTied_L53 s9 b q_5 v2_5 v3_5 v4_5))
noncomputable def pX8_sumOfTied_L5 (s9 : SS) (b : BS)  : Nat → Bool → Int32 → Int32 → Int32
  | 0 => fun _ _ _ => (0)
  | n + 1 => bX8_sumOfTied_L5 s9 b  (pX8_sumOfTied_L5 s9 b  n)
def kbX8_sumOfTied_L5 (s9 : SS) (b : BS)  (Q_5 : Bool → Int32 → Int32 → Prop) (v2_5 : Bool) (v3_5 : Int32) (v4_5 : Int32) : Prop := if (pX2_cellCount b) ≤ v4_5 then (True) else ((kX8_votesOf s9 v4_5) ∧ ((kX8_votesOf s9 (s9.1 1)) ∧ (if (pX8_votesOf s9 v4_5) = (pX8_votesOf s9 (s9.1 1)) then (if v2_5 = true then ((kX2_rowOf b v4_5) ∧ (kX8_sumOfTied_L51 s9 b Q_5 v2_5 v4_5 v3_5 (pX2_rowOf b v4_5))) else ((kX2_columnOf b v4_5) ∧ (kX8_sumOfTied_L51 s9 b Q_5 v2_5 v4_5 v3_5 (pX2_columnOf b v4_5)))) else (kX8_sumOfTied_L53 s9 b Q_5 v2_5 v3_5 v4_5))))
noncomputable def kX8_sumOfTied_L5 (s9 : SS) (b : BS)  : Nat → Bool → Int32 → Int32 → Prop
  | 0 => fun _ _ _ => False
  | n + 1 => kbX8_sumOfTied_L5 s9 b  (kX8_sumOfTied_L5 s9 b  n)
noncomputable def pX8_sumOfTied (s9 : SS) (b : BS) (a2 : Bool) : Int32 := pX8_sumOfTied_L5 s9 b fu a2 0 0
def kX8_sumOfTied (s9 : SS) (b : BS) (a2 : Bool) : Prop := kX8_sumOfTied_L5 s9 b fu a2 0 0
abbrev rX8_sumOfTied : Room := { frames := 2, cells := 0, slots := 0, locals := 43 }
set_option maxHeartbeats 4000000 in
set_option maxRecDepth 100000 in
theorem mX8_sumOfTied (l : Launch) (dC : Nat → ClassId) (dI : Nat → Nat → Nat) (cI cB cO cL : ClassId) (qs : Nat → Nat) (qb : Nat → Nat) (s9 : SS) (b : BS) (a2 : Bool) (hok : kX8_sumOfTied s9 b a2) : Met l yX8_sumOfTied wsX8_sumOfTied rX8_sumOfTied (cP (dC, dI) (tYS cI cB cO cL) (sw qs cI s9 ++ bw qb cI b) [.ref (qs 0), .ref (qb 0), .int (bz a2)]) (gRi (pX8_sumOfTied s9 b a2)) 0 0 (fun _ => False) := by
  refine cMet (cc := cX8_sumOfTied) (maxL := 5) (ret := some .int) [(0, .ref (qs 0)), (1, .ref (qb 0)), (2, .int (bz a2))] (by decide) rfl rfl rfl ?_
  intro p e s mi below meth c C0 hK hE hP ls hl
  obtain ⟨hx, hb, hr, hml, hown, hts, hlocks⟩ := id C0
  have hown : s.vm.findClass RX8 = some mi.cls := hown
  obtain ⟨F, hF⟩ : ∃ F, F = pX8_sumOfTied s9 b a2 := ⟨_, rfl⟩
  have hf := hF
  have hin8 : ∀ w ∈ u_ws RX8 TX8 9, w ∈ wsX8_sumOfTied := by decide +kernel
  have fl29 := hts (.fieldLink RX8 29 "ClickBench$Survey" "best" "I") (by decide +kernel)
  have J_5 : ∀ (n_5 : Nat) (v2_5 : Bool) (v3_5 : Int32) (v4_5 : Int32), ∀ ls : Array Slot, lv_has ls 5 [(0, .ref (qs 0)), (1, .ref (qb 0)), (2, .int (bz v2_5)), (3, .int v3_5), (4, .int v4_5)] → F = pX8_sumOfTied_L5 s9 b n_5 v2_5 v3_5 v4_5 → kX8_sumOfTied_L5 s9 b n_5 v2_5 v3_5 v4_5 → W p l e rX8_sumOfTied s mi ([.ref (qs 0), .ref (qb 0), .int (bz a2)] : List Value).toArray below meth c s.heap [] 0 0 (MQ below (gRi (pX8_sumOfTied s9 b a2)) ([.ref (qs 0), .ref (qb 0), .int (bz a2)] : List Value).toArray s 0 0 (fun _ => False)) (F0 mi 5 ls []) := by
    intro n_5
    induction n_5 with
    | zero =>
      intro v2_5 v3_5 v4_5 ls hl hf hok
      exact absurd hok (fun h => h)
    | succ n_5 ih_5 =>
      have J_53 : ∀ (v2_53 : Bool) (v3_53 : Int32) (v4_53 : Int32), ∀ ls : Array Slot, lv_has ls 5 [(0, .ref (qs 0)), (1, .ref (qb 0)), (2, .int (bz v2_53)), (3, .int v3_53), (4, .int v4_53)] → F = pX8_sumOfTied_L53 s9 b (pX8_sumOfTied_L5 s9 b n_5) v2_53 v3_53 v4_53 → kX8_sumOfTied_L53 s9 b (kX8_sumOfTied_L5 s9 b n_5) v2_53 v3_53 v4_53 → W p l e rX8_sumOfTied s mi ([.ref (qs 0), .ref (qb 0), .int (bz a2)] : List Value).toArray below meth c s.heap [] 0 0 (MQ below (gRi (pX8_sumOfTied s9 b a2)) ([.ref (qs 0), .ref (qb 0), .int (bz a2)] : List Value).toArray s 0 0 (fun _ => False)) (F0 mi 53 ls []) := by
        intro v2_53 v3_53 v4_53 ls hl hf hok
        obtain ⟨x5, ex5⟩ : ∃ y : Int32, y = v4_53 + 1 := ⟨_, rfl⟩
        refine lv_iinc (v := x5) (lv' := [(4, .int x5), (0, .ref (qs 0)), (1, .ref (qb 0)), (2, .int (bz v2_53)), (3, .int v3_53)]) hx hb dX8_sumOfTied_53 hl (k := 4) rfl (by rw [ex5]; rfl) (by decide) rfl (fun ls hl => ?_)
        have hf := lt_eq ex5 hf
        have hok := lt_ok ex5 hok
        refine lv_goto (tgt := 5) hx hb dX8_sumOfTied_56 (by decide) ?_
        exact ih_5 v2_53 v3_53 x5 _ (lv_sub hl [1, 2, 3, 4, 0] rfl) hf hok
      have J_51 : ∀ (v2_51 : Bool) (v4_51 : Int32) (t0_51 : Int32) (t1_51 : Int32), ∀ ls : Array Slot, lv_has ls 5 [(0, .ref (qs 0)), (1, .ref (qb 0)), (2, .int (bz v2_51)), (4, .int v4_51)] → F = pX8_sumOfTied_L51 s9 b (pX8_sumOfTied_L5 s9 b n_5) v2_51 v4_51 t0_51 t1_51 → kX8_sumOfTied_L51 s9 b (kX8_sumOfTied_L5 s9 b n_5) v2_51 v4_51 t0_51 t1_51 → W p l e rX8_sumOfTied s mi ([.ref (qs 0), .ref (qb 0), .int (bz a2)] : List Value).toArray below meth c s.heap [] 0 0 (MQ below (gRi (pX8_sumOfTied s9 b a2)) ([.ref (qs 0), .ref (qb 0), .int (bz a2)] : List Value).toArray s 0 0 (fun _ => False)) (F0 mi 51 ls [.int t1_51, .int t0_51]) := by
        intro v2_51 v4_51 t0_51 t1_51 ls hl hf hok
        refine lv_iadd hx hb dX8_sumOfTied_51 ?_
        refine lv_topi (fun x8 ex8 => ?_)
        have hf := lt_eq ex8 hf
        have hok := lt_ok ex8 hok
        refine lv_istore_n (lv' := [(3, .int x8), (0, .ref (qs 0)), (1, .ref (qb 0)), (2, .int (bz v2_51)), (4, .int v4_51)]) hx hb dX8_sumOfTied_52 rfl hl (by decide) rfl (fun ls hl => ?_)
        exact J_53 v2_51 x8 v4_51 _ (lv_sub hl [1, 2, 3, 0, 4] rfl) hf hok
      intro v2_5 v3_5 v4_5 ls hl hf hok
      have hf : F = bX8_sumOfTied_L5 s9 b (pX8_sumOfTied_L5 s9 b n_5) v2_5 v3_5 v4_5 := hf
      have hok : kbX8_sumOfTied_L5 s9 b (kX8_sumOfTied_L5 s9 b n_5) v2_5 v3_5 v4_5 := hok
      refine lv_iload hx hb dX8_sumOfTied_5 (lv_at hl 4 rfl) ?_
      refine lv_aload_n hx hb dX8_sumOfTied_7 rfl (lv_at hl 1 rfl) ?_
      have hPc := hP.sub (ws' := bw qb cI b) [5, 6, 7, 8, 9, 10, 11, 12, 13] rfl
      refine gro_i (va_runV (As := []) (rest := [.int v4_5]) ⟨hx, hb, hml, hown, hts⟩ (mX2_cellCount l dC dI cI cB cO cL qb b  ) (cwV 0 hts gX8_sumOfTied_X2_cellCount rfl rfl rfl (by decide +kernel) ⟨Nat.le_of_ble_eq_true rfl, Nat.le_of_ble_eq_true rfl⟩) ⟨cP_blind, va_recv hK hPc (ci := 1) (q0 := 0) rfl rfl, cP_ok hPc hK hE⟩ rfl rfl hl.1 rfl (lv_room (Nat.le_of_ble_eq_true rfl)) dX8_sumOfTied_8 ⟨Nat.zero_le _, Nat.zero_le _⟩) ?_
      refine lv_icmp_ge (tgt := 59) hx hb dX8_sumOfTied_11 (by decide) (fun c1 => ?_) (fun c1 => ?_)
      · have hf := it_eq c1 hf
        refine lv_iload_n hx hb dX8_sumOfTied_59 rfl (lv_at hl 3 rfl) ?_
        exact e_ri C0 (hf.symm.trans hF) dX8_sumOfTied_60
      · have hf := ie_eq c1 hf
        have hok := ie_ok c1 hok
        refine lv_aload_n hx hb dX8_sumOfTied_14 rfl (lv_at hl 0 rfl) ?_
        refine lv_iload hx hb dX8_sumOfTied_15 (lv_at hl 4 rfl) ?_
        obtain ⟨h2, hok⟩ := hok
        have hPc := hP.sub (ws' := sw qs cI s9) [0, 1, 2, 3, 4] rfl
        refine gro_i (va_runV (As := [.int v4_5]) (rest := []) ⟨hx, hb, hml, hown, hts⟩ (mX8_votesOf l dC dI cI cB cO cL qs s9 v4_5  h2) (cwV 1 hts gX8_sumOfTied_X8_votesOf rfl rfl rfl (by decide +kernel) ⟨Nat.le_of_ble_eq_true rfl, Nat.le_of_ble_eq_true rfl⟩) ⟨cP_blind, va_recv hK hPc (ci := 5) (q0 := 0) rfl rfl, cP_ok hPc hK hE⟩ rfl rfl hl.1 rfl (lv_room (Nat.le_of_ble_eq_true rfl)) dX8_sumOfTied_17 ⟨Nat.zero_le _, Nat.zero_le _⟩) ?_
        refine lv_aload_n hx hb dX8_sumOfTied_20 rfl (lv_at hl 0 rfl) ?_
        refine lv_aload_n hx hb dX8_sumOfTied_21 rfl (lv_at hl 0 rfl) ?_
        refine va_get (D := (dC, dI)) (ci := 5) (v := .int (s9.1 1)) (C := RX8) (T := TX8) (N := 9) hx hb hts hin8 hown hK hP 0 rfl rfl 5 (by decide) fl29 (fun _ h9 => h9) rfl dX8_sumOfTied_22 ?_
        obtain ⟨h3, hok⟩ := hok
        have hPc := hP.sub (ws' := sw qs cI s9) [0, 1, 2, 3, 4] rfl
        refine gro_i (va_runV (As := [.int (s9.1 1)]) (rest := [.int (pX8_votesOf s9 v4_5)]) ⟨hx, hb, hml, hown, hts⟩ (mX8_votesOf l dC dI cI cB cO cL qs s9 (s9.1 1)  h3) (cwV 1 hts gX8_sumOfTied_X8_votesOf rfl rfl rfl (by decide +kernel) ⟨Nat.le_of_ble_eq_true rfl, Nat.le_of_ble_eq_true rfl⟩) ⟨cP_blind, va_recv hK hPc (ci := 5) (q0 := 0) rfl rfl, cP_ok hPc hK hE⟩ rfl rfl hl.1 rfl (lv_room (Nat.le_of_ble_eq_true rfl)) dX8_sumOfTied_25 ⟨Nat.zero_le _, Nat.zero_le _⟩) ?_
        refine lv_icmp_ne (tgt := 53) hx hb dX8_sumOfTied_28 (by decide) (fun c4 => ?_) (fun c4 => ?_)
        · have hf := ie_eq c4 hf
          have hok := ie_ok c4 hok
          exact J_53 v2_5 v3_5 v4_5 _ (lv_sub hl [0, 1, 2, 3, 4] rfl) hf hok
        · have hf := it_eq c4 hf
          have hok := it_ok c4 hok
          refine lv_iload_n hx hb dX8_sumOfTied_31 rfl (lv_at hl 3 rfl) ?_
          refine lv_iload_n hx hb dX8_sumOfTied_32 rfl (lv_at hl 2 rfl) ?_
          refine lv_if_eq (tgt := 45) hx hb dX8_sumOfTied_33 (by decide) (fun c6 => ?_) (fun c6 => ?_)
          · have c6 := bz_f c6
            have hf := ie_eq c6 hf
            have hok := ie_ok c6 hok
            refine lv_aload_n hx hb dX8_sumOfTied_45 rfl (lv_at hl 1 rfl) ?_
            refine lv_iload hx hb dX8_sumOfTied_46 (lv_at hl 4 rfl) ?_
            obtain ⟨h7, hok⟩ := hok
            have hPc := hP.sub (ws' := bw qb cI b) [5, 6, 7, 8, 9, 10, 11, 12, 13] rfl
            refine gro_i (va_runV (As := [.int v4_5]) (rest := [.int v3_5]) ⟨hx, hb, hml, hown, hts⟩ (mX2_columnOf l dC dI cI cB cO cL qb b v4_5  h7) (cwV 1 hts gX8_sumOfTied_X2_columnOf rfl rfl rfl (by decide +kernel) ⟨Nat.le_of_ble_eq_true rfl, Nat.le_of_ble_eq_true rfl⟩) ⟨cP_blind, va_recv hK hPc (ci := 1) (q0 := 0) rfl rfl, cP_ok hPc hK hE⟩ rfl rfl hl.1 rfl (lv_room (Nat.le_of_ble_eq_true rfl)) dX8_sumOfTied_48 ⟨Nat.zero_le _, Nat.zero_le _⟩) ?_
            exact J_51 v2_5 v4_5 v3_5 (pX2_columnOf b v4_5) _ (lv_sub hl [0, 1, 2, 4] rfl) hf hok
          · have c6 := bz_t c6
            have hf := it_eq c6 hf
            have hok := it_ok c6 hok
            refine lv_aload_n hx hb dX8_sumOfTied_36 rfl (lv_at hl 1 rfl) ?_
            refine lv_iload hx hb dX8_sumOfTied_37 (lv_at hl 4 rfl) ?_
            obtain ⟨h9, hok⟩ := hok
            have hPc := hP.sub (ws' := bw qb cI b) [5, 6, 7, 8, 9, 10, 11, 12, 13] rfl
            refine gro_i (va_runV (As := [.int v4_5]) (rest := [.int v3_5]) ⟨hx, hb, hml, hown, hts⟩ (mX2_rowOf l dC dI cI cB cO cL qb b v4_5  h9) (cwV 1 hts gX8_sumOfTied_X2_rowOf rfl rfl rfl (by decide +kernel) ⟨Nat.le_of_ble_eq_true rfl, Nat.le_of_ble_eq_true rfl⟩) ⟨cP_blind, va_recv hK hPc (ci := 1) (q0 := 0) rfl rfl, cP_ok hPc hK hE⟩ rfl rfl hl.1 rfl (lv_room (Nat.le_of_ble_eq_true rfl)) dX8_sumOfTied_39 ⟨Nat.zero_le _, Nat.zero_le _⟩) ?_
            refine lv_goto (tgt := 51) hx hb dX8_sumOfTied_42 (by decide) ?_
            exact J_51 v2_5 v4_5 v3_5 (pX2_rowOf b v4_5) _ (lv_sub hl [0, 1, 2, 4] rfl) hf hok
  refine lv_iconst (v := 0) hx hb dX8_sumOfTied_0 (by decide) ?_
  refine lv_istore_n (lv' := [(3, .int 0), (0, .ref (qs 0)), (1, .ref (qb 0)), (2, .int (bz a2))]) hx hb dX8_sumOfTied_1 rfl hl (by decide) rfl (fun ls hl => ?_)
  refine lv_iconst (v := 0) hx hb dX8_sumOfTied_2 (by decide) ?_
  refine lv_istore (lv' := [(4, .int 0), (3, .int 0), (0, .ref (qs 0)), (1, .ref (qb 0)), (2, .int (bz a2))]) hx hb dX8_sumOfTied_3 hl (by decide) rfl (fun ls hl => ?_)
  exact J_5 fu a2 0 0 _ (lv_sub hl [2, 3, 4, 1, 0] rfl) hf hok
