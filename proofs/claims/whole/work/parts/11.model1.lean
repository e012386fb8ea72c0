noncomputable def pX12_lists_L156  (q_78 : Int32 → Int32 → Int32 → Int32 → Int32 → MS → MS) (v1_156 : Int32) (v2_156 : Int32) (v3_156 : Int32) (v4_156 : Int32) (v5_156 : Int32) (m_156 : MS) : MS := lt (v5_156 + 1) fun (x13 : Int32) => q_78 v1_156 v2_156 v3_156 v4_156 x13 m_156
def kX12_lists_L156  (Q_78 : Int32 → Int32 → Int32 → Int32 → Int32 → MS → Prop) (v1_156 : Int32) (v2_156 : Int32) (v3_156 : Int32) (v4_156 : Int32) (v5_156 : Int32) (m_156 : MS) : Prop := lt (v5_156 + 1) fun (x13 : Int32) => Q_78 v1_156 v2_156 v3_156 v4_156 x13 m_156
noncomputable def bX12_lists_L78   (q_78 : Int32 → Int32 → Int32 → Int32 → Int32 → MS → MS) (v1_78 : Int32) (v2_78 : Int32) (v3_78 : Int32) (v4_78 : Int32) (v5_78 : Int32) (m_78 : MS) : MS := if (v4_78 * v4_78) ≤ v5_78 then (m_78) else (if ((m_78.2.2 0) 8) = 2 then (lt (v5_78 / v4_78) fun (x9 : Int32) => lt (v5_78 - v5_78 / v4_78 * v4_78) fun (x11 : Int32) => if x9 = x11 then (pX12_lists_L156 q_78 v1_78 v2_78 v3_78 v4_78 v5_78 m_78) else (lt (pX12_adds m_78 v3_78 2 (pX12_mirroredX m_78 x11 (pX12_mirroredX m_78 x9 v1_78)) (pX12_mirroredY m_78 x11 (pX12_mirroredY m_78 x9 v2_78)) x9 x11) fun (u20 : MS) => pX12_lists_L156 q_78 v1_78 v2_78 v3_78 v4_78 v5_78 u20)) else (m_78))
noncomputable def pX12_lists_L78   : Nat → Int32 → Int32 → Int32 → Int32 → Int32 → MS → MS
  | 0 => fun _ _ _ _ _ m_78 => (m_78)
  | n + 1 => bX12_lists_L78   (pX12_lists_L78   n)
def kbX12_lists_L78   (Q_78 : Int32 → Int32 → Int32 → Int32 → Int32 → MS → Prop) (v1_78 : Int32) (v2_78 : Int32) (v3_78 : Int32) (v4_78 : Int32) (v5_78 : Int32) (m_78 : MS) : Prop := if (v4_78 * v4_78) ≤ v5_78 then (True) else (if ((m_78.2.2 0) 8) = 2 then ((¬ v4_78 = 0) ∧ (lt (v5_78 / v4_78) fun (x9 : Int32) => (¬ v4_78 = 0) ∧ (lt (v5_78 - v5_78 / v4_78 * v4_78) fun (x11 : Int32) => if x9 = x11 then (kX12_lists_L156 Q_78 v1_78 v2_78 v3_78 v4_78 v5_78 m_78) else ((kX12_mirroredX m_78 x9 v1_78) ∧ ((kX12_mirroredX m_78 x11 (pX12_mirroredX m_78 x9 v1_78)) ∧ ((kX12_mirroredY m_78 x9 v2_78) ∧ ((kX12_mirroredY m_78 x11 (pX12_mirroredY m_78 x9 v2_78)) ∧ ((kX12_adds m_78 v3_78 2 (pX12_mirroredX m_78 x11 (pX12_mirroredX m_78 x9 v1_78)) (pX12_mirroredY m_78 x11 (pX12_mirroredY m_78 x9 v2_78)) x9 x11) ∧ (lt (pX12_adds m_78 v3_78 2 (pX12_mirroredX m_78 x11 (pX12_mirroredX m_78 x9 v1_78)) (pX12_mirroredY m_78 x11 (pX12_mirroredY m_78 x9 v2_78)) x9 x11) fun (u20 : MS) => kX12_lists_L156 Q_78 v1_78 v2_78 v3_78 v4_78 v5_78 u20))))))))) else (True))
noncomputable def kX12_lists_L78   : Nat → Int32 → Int32 → Int32 → Int32 → Int32 → MS → Prop
  | 0 => fun _ _ _ _ _ _ => False
  | n + 1 => kbX12_lists_L78   (kX12_lists_L78   n)
noncomputable def bX12_lists_L38   (q_38 : Int32 → Int32 → Int32 → Int32 → Int32 → MS → MS) (v1_38 : Int32) (v2_38 : Int32) (v3_38 : Int32) (v4_38 : Int32) (v5_38 : Int32) (m_38 : MS) : MS := if v4_38 ≤ v5_38 then (pX12_lists_L78 fu v1_38 v2_38 v3_38 v4_38 0 m_38) else (lt (pX12_adds m_38 v3_38 1 (pX12_mirroredX m_38 v5_38 v1_38) (pX12_mirroredY m_38 v5_38 v2_38) v5_38 (-1000000000)) fun (u25 : MS) => lt (v5_38 + 1) fun (x26 : Int32) => q_38 v1_38 v2_38 v3_38 v4_38 x26 u25)
noncomputable def pX12_lists_L38   : Nat → Int32 → Int32 → Int32 → Int32 → Int32 → MS → MS
  | 0 => fun _ _ _ _ _ m_38 => (m_38)
  | n + 1 => bX12_lists_L38   (pX12_lists_L38   n)
def kbX12_lists_L38   (Q_38 : Int32 → Int32 → Int32 → Int32 → Int32 → MS → Prop) (v1_38 : Int32) (v2_38 : Int32) (v3_38 : Int32) (v4_38 : Int32) (v5_38 : Int32) (m_38 : MS) : Prop := if v4_38 ≤ v5_38 then (kX12_lists_L78 fu v1_38 v2_38 v3_38 v4_38 0 m_38) else ((kX12_mirroredX m_38 v5_38 v1_38) ∧ ((kX12_mirroredY m_38 v5_38 v2_38) ∧ ((kX12_adds m_38 v3_38 1 (pX12_mirroredX m_38 v5_38 v1_38) (pX12_mirroredY m_38 v5_38 v2_38) v5_38 (-1000000000)) ∧ (lt (pX12_adds m_38 v3_38 1 (pX12_mirroredX m_38 v5_38 v1_38) (pX12_mirroredY m_38 v5_38 v2_38) v5_38 (-1000000000)) fun (u25 : MS) => lt (v5_38 + 1) fun (x26 : Int32) => Q_38 v1_38 v2_38 v3_38 v4_38 x26 u25))))
noncomputable def kX12_lists_L38   : Nat → Int32 → Int32 → Int32 → Int32 → Int32 → MS → Prop
  | 0 => fun _ _ _ _ _ _ => False
  | n + 1 => kbX12_lists_L38   (kX12_lists_L38   n)
noncomputable def pX12_lists_L27   (v1_27 : Int32) (v2_27 : Int32) (v3_27 : Int32) (m_27 : MS) : MS := lt ((m_27.2.2 0) 3) fun (x4 : Int32) => pX12_lists_L38 fu v1_27 v2_27 v3_27 x4 0 m_27
def kX12_lists_L27   (v1_27 : Int32) (v2_27 : Int32) (v3_27 : Int32) (m_27 : MS) : Prop := lt ((m_27.2.2 0) 3) fun (x4 : Int32) => kX12_lists_L38 fu v1_27 v2_27 v3_27 x4 0 m_27
noncomputable def pX12_lists (m : MS) (a1 : Int32) (a2 : Int32) (a3 : Int32) : MS := lt (msi m 4 0) fun (m_1 : MS) => if (pX12_isTaken m_1 a1 a2 a3) = true then (pX12_lists_L27 a1 a2 a3 m_1) else (lt (pX12_adds m_1 a3 0 a1 a2 (-1000000000) (-1000000000)) fun (u29 : MS) => pX12_lists_L27 a1 a2 a3 u29)
def kX12_lists (m : MS) (a1 : Int32) (a2 : Int32) (a3 : Int32) : Prop := lt (msi m 4 0) fun (m_1 : MS) => (kX12_isTaken m_1 a1 a2 a3) ∧ (if (pX12_isTaken m_1 a1 a2 a3) = true then (kX12_lists_L27 a1 a2 a3 m_1) else ((kX12_adds m_1 a3 0 a1 a2 (-1000000000) (-1000000000)) ∧ (lt (pX12_adds m_1 a3 0 a1 a2 (-1000000000) (-1000000000)) fun (u29 : MS) => kX12_lists_L27 a1 a2 a3 u29)))
abbrev rX12_lists : Room := { frames := 3, cells := 0, slots := 0, locals := 74 }
set_option maxHeartbeats 4000000 in
set_option maxRecDepth 100000 in
theorem mX12_lists (l : Launch) (dC : Nat → ClassId) (dI : Nat → Nat → Nat) (cI cB cO cL : ClassId) (q : Nat → Nat) (m : MS) (a1 : Int32) (a2 : Int32) (a3 : Int32) (hI : gD (fun _ => True) (mAd q)) (hok : kX12_lists m a1 a2 a3) : Met l yX12_lists wsX12_lists rX12_lists (gP (dC, dI) (tYS cI cB cO cL) (mw q cI m) [.ref (q 0), .int a1, .int a2, .int a3]) (gQv (dC, dI) (fun m9 => mw q cI m9) (wA (mw q cI m)) (pX12_lists m a1 a2 a3)) 0 0 (wA (mw q cI m)) := by
  refine gMet (cc := cX12_lists) (maxL := 8) (ret := none) [(0, .ref (q 0)), (1, .int a1), (2, .int a2), (3, .int a3)] (by decide) rfl rfl rfl ?_
  intro p e s mi below meth c C0 hK hP ls hl
  obtain ⟨hx, hb, hr, hml, hown, hts, hlocks⟩ := id C0
  have hown : s.vm.findClass RX12 = some mi.cls := hown
  have hS : va_S (wA (mw q cI m)) s.heap s.heap [] := va_S.rf
  have hD : gD (wA (mw q cI m)) (mAd q) := gD_wA (ws := mw q cI m) hI
  have hP : va_P (dC, dI) vwCl (mw q cI m) s.heap := hP
  obtain ⟨F, hF⟩ : ∃ F, F = pX12_lists m a1 a2 a3 := ⟨_, rfl⟩
  have hf := hF
  have hin12 : ∀ w ∈ u_ws RX12 TX12 23, w ∈ wsX12_lists := by decide +kernel
  have fl72 := hts (.fieldLink RX12 72 "ClickBenchModel" "listed" "I") (by decide +kernel)
  have fl7 := hts (.fieldLink RX12 7 "ClickBenchModel" "s" "[I") (by decide +kernel)
  have cn71 := hts (.constant RX12 71 (-1000000000)) (by decide +kernel)
  have J_78 : ∀ (n_78 : Nat) (v1_78 : Int32) (v2_78 : Int32) (v3_78 : Int32) (v4_78 : Int32) (v5_78 : Int32) (m_78 : MS) (H : Heap) (locs : List Loc), va_P (dC, dI) vwCl (mw q cI m_78) H → va_S (wA (mw q cI m)) s.heap H locs → ∀ ls : Array Slot, lv_has ls 8 [(0, .ref (q 0)), (1, .int v1_78), (2, .int v2_78), (3, .int v3_78), (4, .int v4_78), (5, .int v5_78)] → F = pX12_lists_L78 n_78 v1_78 v2_78 v3_78 v4_78 v5_78 m_78 → kX12_lists_L78 n_78 v1_78 v2_78 v3_78 v4_78 v5_78 m_78 → W p l e rX12_lists s mi ([.ref (q 0), .int a1, .int a2, .int a3] : List Value).toArray below meth c H locs 0 0 (MQ below (gQv (dC, dI) (fun m9 => mw q cI m9) (wA (mw q cI m)) (pX12_lists m a1 a2 a3)) ([.ref (q 0), .int a1, .int a2, .int a3] : List Value).toArray s 0 0 (wA (mw q cI m))) (F0 mi 78 ls []) := by
    intro n_78
    induction n_78 with
    | zero =>
      intro v1_78 v2_78 v3_78 v4_78 v5_78 m_78 H locs hP hS ls hl hf hok
      exact absurd hok (fun h => h)
    | succ n_78 ih_78 =>
      have J_156 : ∀ (v1_156 : Int32) (v2_156 : Int32) (v3_156 : Int32) (v4_156 : Int32) (v5_156 : Int32) (m_156 : MS) (H : Heap) (locs : List Loc), va_P (dC, dI) vwCl (mw q cI m_156) H → va_S (wA (mw q cI m)) s.heap H locs → ∀ ls : Array Slot, lv_has ls 8 [(0, .ref (q 0)), (1, .int v1_156), (2, .int v2_156), (3, .int v3_156), (4, .int v4_156), (5, .int v5_156)] → F = pX12_lists_L156 (pX12_lists_L78 n_78) v1_156 v2_156 v3_156 v4_156 v5_156 m_156 → kX12_lists_L156 (kX12_lists_L78 n_78) v1_156 v2_156 v3_156 v4_156 v5_156 m_156 → W p l e rX12_lists s mi ([.ref (q 0), .int a1, .int a2, .int a3] : List Value).toArray below meth c H locs 0 0 (MQ below (gQv (dC, dI) (fun m9 => mw q cI m9) (wA (mw q cI m)) (pX12_lists m a1 a2 a3)) ([.ref (q 0), .int a1, .int a2, .int a3] : List Value).toArray s 0 0 (wA (mw q cI m))) (F0 mi 156 ls []) := by
        intro v1_156 v2_156 v3_156 v4_156 v5_156 m_156 H locs hP hS ls hl hf hok
        obtain ⟨x13, ex13⟩ : ∃ y : Int32, y = v5_156 + 1 := ⟨_, rfl⟩
        refine lv_iinc (v := x13) (lv' := [(5, .int x13), (0, .ref (q 0)), (1, .int v1_156), (2, .int v2_156), (3, .int v3_156), (4, .int v4_156)]) hx hb dX12_lists_156 hl (k := 5) rfl (by rw [ex13]; rfl) (by decide) rfl (fun ls hl => ?_)
        have hf := lt_eq ex13 hf
        have hok := lt_ok ex13 hok
        refine lv_goto (tgt := 78) hx hb dX12_lists_159 (by decide) ?_
        exact ih_78 v1_156 v2_156 v3_156 v4_156 x13 m_156 _ _ hP hS _ (lv_sub hl [1, 2, 3, 4, 5, 0] rfl) hf hok
      intro v1_78 v2_78 v3_78 v4_78 v5_78 m_78 H locs hP hS ls hl hf hok
      have hf : F = bX12_lists_L78 (pX12_lists_L78 n_78) v1_78 v2_78 v3_78 v4_78 v5_78 m_78 := hf
      have hok : kbX12_lists_L78 (kX12_lists_L78 n_78) v1_78 v2_78 v3_78 v4_78 v5_78 m_78 := hok
      refine lv_iload hx hb dX12_lists_78 (lv_at hl 5 rfl) ?_
      refine lv_iload hx hb dX12_lists_80 (lv_at hl 4 rfl) ?_
      refine lv_iload hx hb dX12_lists_82 (lv_at hl 4 rfl) ?_
      refine lv_imul hx hb dX12_lists_84 ?_
      refine lv_icmp_ge (tgt := 162) hx hb dX12_lists_85 (by decide) (fun c6 => ?_) (fun c6 => ?_)
      · have hf := it_eq c6 hf
        exact e_mv C0 (hf.symm.trans hF) hP hS dX12_lists_162
      · have hf := ie_eq c6 hf
        have hok := ie_ok c6 hok
        refine lv_aload_n hx hb dX12_lists_88 rfl (lv_at hl 0 rfl) ?_
        refine va_get (D := (dC, dI)) (ci := 9) (v := .ref (q 1)) (C := RX12) (T := TX12) (N := 23) hx hb hts hin12 hown hK hP 0 rfl rfl 0 (by decide) fl7 (fun _ h9 => h9) rfl dX12_lists_89 ?_
        refine lv_bipush (v := 8) hx hb dX12_lists_92 (by decide) ?_
        refine g_ialdK (D := (dC, dI)) (tys := (tYS cI cB cO cL)) (k := 8) hx hb hK hP 1 0 rfl rfl (by decide) (by decide) (by decide) dX12_lists_94 ?_
        refine lv_iconst (v := 2) hx hb dX12_lists_95 (by decide) ?_
        refine lv_icmp_ne (tgt := 162) hx hb dX12_lists_96 (by decide) (fun c7 => ?_) (fun c7 => ?_)
        · have hf := ie_eq c7 hf
          exact e_mv C0 (hf.symm.trans hF) hP hS dX12_lists_162
        · have hf := it_eq c7 hf
          have hok := it_ok c7 hok
          refine lv_iload hx hb dX12_lists_99 (lv_at hl 5 rfl) ?_
          refine lv_iload hx hb dX12_lists_101 (lv_at hl 4 rfl) ?_
          obtain ⟨h8, hok⟩ := hok
          refine lv_idiv hx hb dX12_lists_103 h8 ?_
          refine lv_topi (fun x9 ex9 => ?_)
          have hf := lt_eq ex9 hf
          have hok := lt_ok ex9 hok
          refine lv_istore (lv' := [(6, .int x9), (0, .ref (q 0)), (1, .int v1_78), (2, .int v2_78), (3, .int v3_78), (4, .int v4_78), (5, .int v5_78)]) hx hb dX12_lists_104 hl (by decide) rfl (fun ls hl => ?_)
          refine lv_iload hx hb dX12_lists_106 (lv_at hl 6 rfl) ?_
          refine lv_iload hx hb dX12_lists_108 (lv_at hl 5 rfl) ?_
          obtain ⟨h10, hok⟩ := hok
          refine lv_irem hx hb dX12_lists_110 h10 ?_
          refine lv_topi (fun x11 ex11 => ?_)
          have hf := lt_eq ex11 hf
          have hok := lt_ok ex11 hok
          refine lv_istore (lv' := [(7, .int x11), (6, .int x9), (0, .ref (q 0)), (1, .int v1_78), (2, .int v2_78), (3, .int v3_78), (4, .int v4_78), (5, .int v5_78)]) hx hb dX12_lists_111 hl (by decide) rfl (fun ls hl => ?_)
          refine lv_iload hx hb dX12_lists_113 (lv_at hl 1 rfl) ?_
          refine lv_iload hx hb dX12_lists_115 (lv_at hl 0 rfl) ?_
          refine lv_icmp_eq (tgt := 156) hx hb dX12_lists_117 (by decide) (fun c12 => ?_) (fun c12 => ?_)
          · have hf := it_eq c12 hf
            have hok := it_ok c12 hok
            exact J_156 v1_78 v2_78 v3_78 v4_78 v5_78 m_78 _ _ hP hS _ (lv_sub hl [2, 3, 4, 5, 6, 7] rfl) hf hok
          · have hf := ie_eq c12 hf
            have hok := ie_ok c12 hok
            refine lv_aload_n hx hb dX12_lists_120 rfl (lv_at hl 2 rfl) ?_
            refine lv_iload_n hx hb dX12_lists_121 rfl (lv_at hl 5 rfl) ?_
            refine lv_iconst (v := 2) hx hb dX12_lists_122 (by decide) ?_
            refine lv_aload_n hx hb dX12_lists_123 rfl (lv_at hl 2 rfl) ?_
            refine lv_iload hx hb dX12_lists_124 (lv_at hl 0 rfl) ?_
            refine lv_aload_n hx hb dX12_lists_126 rfl (lv_at hl 2 rfl) ?_
            refine lv_iload hx hb dX12_lists_127 (lv_at hl 1 rfl) ?_
            refine lv_iload_n hx hb dX12_lists_129 rfl (lv_at hl 3 rfl) ?_
            obtain ⟨h14, hok⟩ := hok
            refine gro_i (va_runV (As := [.int x9, .int v1_78]) (rest := [.int x11, .ref (q 0), .int 2, .int v3_78, .ref (q 0)]) ⟨hx, hb, hml, hown, hts⟩ (mX12_mirroredX l dC dI cI cB cO cL q m_78 x9 v1_78  h14) (cwV 2 hts gX12_lists_X12_mirroredX rfl rfl rfl (by decide +kernel) ⟨Nat.le_of_ble_eq_true rfl, Nat.le_of_ble_eq_true rfl⟩) ⟨gP_blind, va_recv hK hP (ci := 9) (q0 := 0) rfl rfl, gP_ok hP hK⟩ rfl rfl hl.1 rfl (lv_room (Nat.le_of_ble_eq_true rfl)) dX12_lists_130 ⟨Nat.zero_le _, Nat.zero_le _⟩) ?_
            obtain ⟨h15, hok⟩ := hok
            refine gro_i (va_runV (As := [.int x11, .int (pX12_mirroredX m_78 x9 v1_78)]) (rest := [.int 2, .int v3_78, .ref (q 0)]) ⟨hx, hb, hml, hown, hts⟩ (mX12_mirroredX l dC dI cI cB cO cL q m_78 x11 (pX12_mirroredX m_78 x9 v1_78)  h15) (cwV 2 hts gX12_lists_X12_mirroredX rfl rfl rfl (by decide +kernel) ⟨Nat.le_of_ble_eq_true rfl, Nat.le_of_ble_eq_true rfl⟩) ⟨gP_blind, va_recv hK hP (ci := 9) (q0 := 0) rfl rfl, gP_ok hP hK⟩ rfl rfl hl.1 rfl (lv_room (Nat.le_of_ble_eq_true rfl)) dX12_lists_133 ⟨Nat.zero_le _, Nat.zero_le _⟩) ?_
            refine lv_aload_n hx hb dX12_lists_136 rfl (lv_at hl 2 rfl) ?_
            refine lv_iload hx hb dX12_lists_137 (lv_at hl 0 rfl) ?_
            refine lv_aload_n hx hb dX12_lists_139 rfl (lv_at hl 2 rfl) ?_
            refine lv_iload hx hb dX12_lists_140 (lv_at hl 1 rfl) ?_
            refine lv_iload_n hx hb dX12_lists_142 rfl (lv_at hl 4 rfl) ?_
            obtain ⟨h16, hok⟩ := hok
            refine gro_i (va_runV (As := [.int x9, .int v2_78]) (rest := [.int x11, .ref (q 0), .int (pX12_mirroredX m_78 x11 (pX12_mirroredX m_78 x9 v1_78)), .int 2, .int v3_78, .ref (q 0)]) ⟨hx, hb, hml, hown, hts⟩ (mX12_mirroredY l dC dI cI cB cO cL q m_78 x9 v2_78  h16) (cwV 2 hts gX12_lists_X12_mirroredY rfl rfl rfl (by decide +kernel) ⟨Nat.le_of_ble_eq_true rfl, Nat.le_of_ble_eq_true rfl⟩) ⟨gP_blind, va_recv hK hP (ci := 9) (q0 := 0) rfl rfl, gP_ok hP hK⟩ rfl rfl hl.1 rfl (lv_room (Nat.le_of_ble_eq_true rfl)) dX12_lists_143 ⟨Nat.zero_le _, Nat.zero_le _⟩) ?_
            obtain ⟨h17, hok⟩ := hok
            refine gro_i (va_runV (As := [.int x11, .int (pX12_mirroredY m_78 x9 v2_78)]) (rest := [.int (pX12_mirroredX m_78 x11 (pX12_mirroredX m_78 x9 v1_78)), .int 2, .int v3_78, .ref (q 0)]) ⟨hx, hb, hml, hown, hts⟩ (mX12_mirroredY l dC dI cI cB cO cL q m_78 x11 (pX12_mirroredY m_78 x9 v2_78)  h17) (cwV 2 hts gX12_lists_X12_mirroredY rfl rfl rfl (by decide +kernel) ⟨Nat.le_of_ble_eq_true rfl, Nat.le_of_ble_eq_true rfl⟩) ⟨gP_blind, va_recv hK hP (ci := 9) (q0 := 0) rfl rfl, gP_ok hP hK⟩ rfl rfl hl.1 rfl (lv_room (Nat.le_of_ble_eq_true rfl)) dX12_lists_146 ⟨Nat.zero_le _, Nat.zero_le _⟩) ?_
            refine lv_iload hx hb dX12_lists_149 (lv_at hl 1 rfl) ?_
            refine lv_iload hx hb dX12_lists_151 (lv_at hl 0 rfl) ?_
            obtain ⟨h18, hok⟩ := hok
            refine gms_v (va_runV (As := [.int v3_78, .int 2, .int (pX12_mirroredX m_78 x11 (pX12_mirroredX m_78 x9 v1_78)), .int (pX12_mirroredY m_78 x11 (pX12_mirroredY m_78 x9 v2_78)), .int x9, .int x11]) (rest := []) ⟨hx, hb, hml, hown, hts⟩ (mX12_adds l dC dI cI cB cO cL q m_78 v3_78 2 (pX12_mirroredX m_78 x11 (pX12_mirroredX m_78 x9 v1_78)) (pX12_mirroredY m_78 x11 (pX12_mirroredY m_78 x9 v2_78)) x9 x11 (gD_any hD) h18) (cwV 6 hts gX12_lists_X12_adds rfl rfl rfl (by decide +kernel) ⟨Nat.le_of_ble_eq_true rfl, Nat.le_of_ble_eq_true rfl⟩) ⟨gP_blind, va_recv hK hP (ci := 9) (q0 := 0) rfl rfl, gP_ok hP hK⟩ rfl rfl hl.1 rfl (lv_room (Nat.le_of_ble_eq_true rfl)) dX12_lists_153 ⟨Nat.zero_le _, Nat.zero_le _⟩) hP (gD_va hD rfl) hS (fun u20 H locs hw hP hS => ?_)
            have hP : va_P (dC, dI) vwCl (mw q cI u20) H := hP
            have hf := lt_eq hw hf
            have hok := lt_ok hw hok
            exact J_156 v1_78 v2_78 v3_78 v4_78 v5_78 u20 _ _ hP hS _ (lv_sub hl [2, 3, 4, 5, 6, 7] rfl) hf hok
  have J_38 : ∀ (n_38 : Nat) (v1_38 : Int32) (v2_38 : Int32) (v3_38 : Int32) (v4_38 : Int32) (v5_38 : Int32) (m_38 : MS) (H : Heap) (locs : List Loc), va_P (dC, dI) vwCl (mw q cI m_38) H → va_S (wA (mw q cI m)) s.heap H locs → ∀ ls : Array Slot, lv_has ls 8 [(0, .ref (q 0)), (1, .int v1_38), (2, .int v2_38), (3, .int v3_38), (4, .int v4_38), (5, .int v5_38)] → F = pX12_lists_L38 n_38 v1_38 v2_38 v3_38 v4_38 v5_38 m_38 → kX12_lists_L38 n_38 v1_38 v2_38 v3_38 v4_38 v5_38 m_38 → W p l e rX12_lists s mi ([.ref (q 0), .int a1, .int a2, .int a3] : List Value).toArray below meth c H locs 0 0 (MQ below (gQv (dC, dI) (fun m9 => mw q cI m9) (wA (mw q cI m)) (pX12_lists m a1 a2 a3)) ([.ref (q 0), .int a1, .int a2, .int a3] : List Value).toArray s 0 0 (wA (mw q cI m))) (F0 mi 38 ls []) := by
    intro n_38
    induction n_38 with
    | zero =>
      intro v1_38 v2_38 v3_38 v4_38 v5_38 m_38 H locs hP hS ls hl hf hok
      exact absurd hok (fun h => h)
    | succ n_38 ih_38 =>
      intro v1_38 v2_38 v3_38 v4_38 v5_38 m_38 H locs hP hS ls hl hf hok
      have hf : F = bX12_lists_L38 (pX12_lists_L38 n_38) v1_38 v2_38 v3_38 v4_38 v5_38 m_38 := hf
      have hok : kbX12_lists_L38 (kX12_lists_L38 n_38) v1_38 v2_38 v3_38 v4_38 v5_38 m_38 := hok
      refine lv_iload hx hb dX12_lists_38 (lv_at hl 5 rfl) ?_
      refine lv_iload hx hb dX12_lists_40 (lv_at hl 4 rfl) ?_
      refine lv_icmp_ge (tgt := 75) hx hb dX12_lists_42 (by decide) (fun c5 => ?_) (fun c5 => ?_)
      · have hf := it_eq c5 hf
        have hok := it_ok c5 hok
        refine lv_iconst (v := 0) hx hb dX12_lists_75 (by decide) ?_
        refine lv_istore (lv' := [(5, .int 0), (0, .ref (q 0)), (1, .int v1_38), (2, .int v2_38), (3, .int v3_38), (4, .int v4_38)]) hx hb dX12_lists_76 hl (by decide) rfl (fun ls hl => ?_)
        exact J_78 fu v1_38 v2_38 v3_38 v4_38 0 m_38 _ _ hP hS _ (lv_sub hl [1, 2, 3, 4, 5, 0] rfl) hf hok
      · have hf := ie_eq c5 hf
        have hok := ie_ok c5 hok
        refine lv_aload_n hx hb dX12_lists_45 rfl (lv_at hl 0 rfl) ?_
        refine lv_iload_n hx hb dX12_lists_46 rfl (lv_at hl 3 rfl) ?_
        refine lv_iconst (v := 1) hx hb dX12_lists_47 (by decide) ?_
        refine lv_aload_n hx hb dX12_lists_48 rfl (lv_at hl 0 rfl) ?_
        refine lv_iload hx hb dX12_lists_49 (lv_at hl 5 rfl) ?_
        refine lv_iload_n hx hb dX12_lists_51 rfl (lv_at hl 1 rfl) ?_
        obtain ⟨h21, hok⟩ := hok
        refine gro_i (va_runV (As := [.int v5_38, .int v1_38]) (rest := [.int 1, .int v3_38, .ref (q 0)]) ⟨hx, hb, hml, hown, hts⟩ (mX12_mirroredX l dC dI cI cB cO cL q m_38 v5_38 v1_38  h21) (cwV 2 hts gX12_lists_X12_mirroredX rfl rfl rfl (by decide +kernel) ⟨Nat.le_of_ble_eq_true rfl, Nat.le_of_ble_eq_true rfl⟩) ⟨gP_blind, va_recv hK hP (ci := 9) (q0 := 0) rfl rfl, gP_ok hP hK⟩ rfl rfl hl.1 rfl (lv_room (Nat.le_of_ble_eq_true rfl)) dX12_lists_52 ⟨Nat.zero_le _, Nat.zero_le _⟩) ?_
        refine lv_aload_n hx hb dX12_lists_55 rfl (lv_at hl 0 rfl) ?_
        refine lv_iload hx hb dX12_lists_56 (lv_at hl 5 rfl) ?_
        refine lv_iload_n hx hb dX12_lists_58 rfl (lv_at hl 2 rfl) ?_
        obtain ⟨h22, hok⟩ := hok
        refine gro_i (va_runV (As := [.int v5_38, .int v2_38]) (rest := [.int (pX12_mirroredX m_38 v5_38 v1_38), .int 1, .int v3_38, .ref (q 0)]) ⟨hx, hb, hml, hown, hts⟩ (mX12_mirroredY l dC dI cI cB cO cL q m_38 v5_38 v2_38  h22) (cwV 2 hts gX12_lists_X12_mirroredY rfl rfl rfl (by decide +kernel) ⟨Nat.le_of_ble_eq_true rfl, Nat.le_of_ble_eq_true rfl⟩) ⟨gP_blind, va_recv hK hP (ci := 9) (q0 := 0) rfl rfl, gP_ok hP hK⟩ rfl rfl hl.1 rfl (lv_room (Nat.le_of_ble_eq_true rfl)) dX12_lists_59 ⟨Nat.zero_le _, Nat.zero_le _⟩) ?_
        refine lv_iload hx hb dX12_lists_62 (lv_at hl 5 rfl) ?_
        refine lv_ldc (v := (-1000000000)) hx hb hown cn71 dX12_lists_64 ?_
        obtain ⟨h23, hok⟩ := hok
        refine gms_v (va_runV (As := [.int v3_38, .int 1, .int (pX12_mirroredX m_38 v5_38 v1_38), .int (pX12_mirroredY m_38 v5_38 v2_38), .int v5_38, .int (-1000000000)]) (rest := []) ⟨hx, hb, hml, hown, hts⟩ (mX12_adds l dC dI cI cB cO cL q m_38 v3_38 1 (pX12_mirroredX m_38 v5_38 v1_38) (pX12_mirroredY m_38 v5_38 v2_38) v5_38 (-1000000000) (gD_any hD) h23) (cwV 6 hts gX12_lists_X12_adds rfl rfl rfl (by decide +kernel) ⟨Nat.le_of_ble_eq_true rfl, Nat.le_of_ble_eq_true rfl⟩) ⟨gP_blind, va_recv hK hP (ci := 9) (q0 := 0) rfl rfl, gP_ok hP hK⟩ rfl rfl hl.1 rfl (lv_room (Nat.le_of_ble_eq_true rfl)) dX12_lists_66 ⟨Nat.zero_le _, Nat.zero_le _⟩) hP (gD_va hD rfl) hS (fun u25 H locs hw hP hS => ?_)
        have hP : va_P (dC, dI) vwCl (mw q cI u25) H := hP
        have hf := lt_eq hw hf
        have hok := lt_ok hw hok
        obtain ⟨x26, ex26⟩ : ∃ y : Int32, y = v5_38 + 1 := ⟨_, rfl⟩
        refine lv_iinc (v := x26) (lv' := [(5, .int x26), (0, .ref (q 0)), (1, .int v1_38), (2, .int v2_38), (3, .int v3_38), (4, .int v4_38)]) hx hb dX12_lists_69 hl (k := 5) rfl (by rw [ex26]; rfl) (by decide) rfl (fun ls hl => ?_)
        have hf := lt_eq ex26 hf
        have hok := lt_ok ex26 hok
        refine lv_goto (tgt := 38) hx hb dX12_lists_72 (by decide) ?_
        exact ih_38 v1_38 v2_38 v3_38 v4_38 x26 u25 _ _ hP hS _ (lv_sub hl [1, 2, 3, 4, 5, 0] rfl) hf hok
  have J_27 : ∀ (v1_27 : Int32) (v2_27 : Int32) (v3_27 : Int32) (m_27 : MS) (H : Heap) (locs : List Loc), va_P (dC, dI) vwCl (mw q cI m_27) H → va_S (wA (mw q cI m)) s.heap H locs → ∀ ls : Array Slot, lv_has ls 8 [(0, .ref (q 0)), (1, .int v1_27), (2, .int v2_27), (3, .int v3_27)] → F = pX12_lists_L27 v1_27 v2_27 v3_27 m_27 → kX12_lists_L27 v1_27 v2_27 v3_27 m_27 → W p l e rX12_lists s mi ([.ref (q 0), .int a1, .int a2, .int a3] : List Value).toArray below meth c H locs 0 0 (MQ below (gQv (dC, dI) (fun m9 => mw q cI m9) (wA (mw q cI m)) (pX12_lists m a1 a2 a3)) ([.ref (q 0), .int a1, .int a2, .int a3] : List Value).toArray s 0 0 (wA (mw q cI m))) (F0 mi 27 ls []) := by
    intro v1_27 v2_27 v3_27 m_27 H locs hP hS ls hl hf hok
    refine lv_aload_n hx hb dX12_lists_27 rfl (lv_at hl 0 rfl) ?_
    refine va_get (D := (dC, dI)) (ci := 9) (v := .ref (q 1)) (C := RX12) (T := TX12) (N := 23) hx hb hts hin12 hown hK hP 0 rfl rfl 0 (by decide) fl7 (fun _ h9 => h9) rfl dX12_lists_28 ?_
    refine lv_iconst (v := 3) hx hb dX12_lists_31 (by decide) ?_
    refine g_ialdK (D := (dC, dI)) (tys := (tYS cI cB cO cL)) (k := 3) hx hb hK hP 1 0 rfl rfl (by decide) (by decide) (by decide) dX12_lists_32 ?_
    refine lv_topi (fun x4 ex4 => ?_)
    have hf := lt_eq ex4 hf
    have hok := lt_ok ex4 hok
    refine lv_istore (lv' := [(4, .int x4), (0, .ref (q 0)), (1, .int v1_27), (2, .int v2_27), (3, .int v3_27)]) hx hb dX12_lists_33 hl (by decide) rfl (fun ls hl => ?_)
    refine lv_iconst (v := 0) hx hb dX12_lists_35 (by decide) ?_
    refine lv_istore (lv' := [(5, .int 0), (4, .int x4), (0, .ref (q 0)), (1, .int v1_27), (2, .int v2_27), (3, .int v3_27)]) hx hb dX12_lists_36 hl (by decide) rfl (fun ls hl => ?_)
    exact J_38 fu v1_27 v2_27 v3_27 x4 0 m_27 _ _ hP hS _ (lv_sub hl [2, 3, 4, 5, 1, 0] rfl) hf hok
  refine lv_aload_n hx hb dX12_lists_0 rfl (lv_at hl 0 rfl) ?_
  refine lv_iconst (v := 0) hx hb dX12_lists_1 (by decide) ?_
  refine va_put (D := (dC, dI)) (ci := 9) (v := .int 0) (ty := .int) (C := RX12) (T := TX12) (N := 23) hx hb hts hin12 tyX12 tyX12_ok nmX12 hown hK hP (gD_va hD rfl) hS 0 rfl rfl 13 (by decide) fl72 (fun _ h9 => h9) rfl (by decide +kernel) rfl rfl (Nat.le_of_ble_eq_true rfl) dX12_lists_2 (fun H locs hP _ hS => ?_)
  obtain ⟨m_1, em_1⟩ : ∃ z9 : MS, z9 = msi m 4 0 := ⟨_, rfl⟩
  have hP : va_P (dC, dI) vwCl (mw q cI m_1) H := by rw [em_1]; exact hP
  have hf := lt_eq em_1 hf
  have hok := lt_ok em_1 hok
  refine lv_aload_n hx hb dX12_lists_5 rfl (lv_at hl 0 rfl) ?_
  refine lv_iload_n hx hb dX12_lists_6 rfl (lv_at hl 1 rfl) ?_
  refine lv_iload_n hx hb dX12_lists_7 rfl (lv_at hl 2 rfl) ?_
  refine lv_iload_n hx hb dX12_lists_8 rfl (lv_at hl 3 rfl) ?_
  obtain ⟨h2, hok⟩ := hok
  refine gro_i (va_runV (As := [.int a1, .int a2, .int a3]) (rest := []) ⟨hx, hb, hml, hown, hts⟩ (mX12_isTaken l dC dI cI cB cO cL q m_1 a1 a2 a3  h2) (cwV 3 hts gX12_lists_X12_isTaken rfl rfl rfl (by decide +kernel) ⟨Nat.le_of_ble_eq_true rfl, Nat.le_of_ble_eq_true rfl⟩) ⟨gP_blind, va_recv hK hP (ci := 9) (q0 := 0) rfl rfl, gP_ok hP hK⟩ rfl rfl hl.1 rfl (lv_room (Nat.le_of_ble_eq_true rfl)) dX12_lists_9 ⟨Nat.zero_le _, Nat.zero_le _⟩) ?_
  refine lv_if_ne (tgt := 27) hx hb dX12_lists_12 (by decide) (fun c3 => ?_) (fun c3 => ?_)
  · have c3 := bz_t c3
    have hf := it_eq c3 hf
    have hok := it_ok c3 hok
    exact J_27 a1 a2 a3 m_1 _ _ hP hS _ (lv_sub hl [0, 1, 2, 3] rfl) hf hok
  · have c3 := bz_f c3
    have hf := ie_eq c3 hf
    have hok := ie_ok c3 hok
    refine lv_aload_n hx hb dX12_lists_15 rfl (lv_at hl 0 rfl) ?_
    refine lv_iload_n hx hb dX12_lists_16 rfl (lv_at hl 3 rfl) ?_
    refine lv_iconst (v := 0) hx hb dX12_lists_17 (by decide) ?_
    refine lv_iload_n hx hb dX12_lists_18 rfl (lv_at hl 1 rfl) ?_
    refine lv_iload_n hx hb dX12_lists_19 rfl (lv_at hl 2 rfl) ?_
    refine lv_ldc (v := (-1000000000)) hx hb hown cn71 dX12_lists_20 ?_
    refine lv_ldc (v := (-1000000000)) hx hb hown cn71 dX12_lists_22 ?_
    obtain ⟨h27, hok⟩ := hok
    refine gms_v (va_runV (As := [.int a3, .int 0, .int a1, .int a2, .int (-1000000000), .int (-1000000000)]) (rest := []) ⟨hx, hb, hml, hown, hts⟩ (mX12_adds l dC dI cI cB cO cL q m_1 a3 0 a1 a2 (-1000000000) (-1000000000) (gD_any hD) h27) (cwV 6 hts gX12_lists_X12_adds rfl rfl rfl (by decide +kernel) ⟨Nat.le_of_ble_eq_true rfl, Nat.le_of_ble_eq_true rfl⟩) ⟨gP_blind, va_recv hK hP (ci := 9) (q0 := 0) rfl rfl, gP_ok hP hK⟩ rfl rfl hl.1 rfl (lv_room (Nat.le_of_ble_eq_true rfl)) dX12_lists_24 ⟨Nat.zero_le _, Nat.zero_le _⟩) hP (gD_va hD rfl) hS (fun u29 H locs hw hP hS => ?_)
    have hP : va_P (dC, dI) vwCl (mw q cI u29) H := hP
    have hf := lt_eq hw hf
    have hok := lt_ok hw hok
    exact J_27 a1 a2 a3 u29 _ _ hP hS _ (lv_sub hl [0, 1, 2, 3] rfl) hf hok
noncomputable def pX12_drawn (m : MS) (a1 : Int32) : Int32 × MS := lt (msa m 0 (upd (m.2.2 0) 6 ((((1103515245 * (((m.2.2 0) 6).toInt64)) + 12345) &&& 2147483647).toInt32))) fun (m_1 : MS) => ((((m_1.2.2 0) 6) >>> (16 &&& 31)) - (((m_1.2.2 0) 6) >>> (16 &&& 31)) / a1 * a1, m_1)
def kX12_drawn (m : MS) (a1 : Int32) : Prop := lt (msa m 0 (upd (m.2.2 0) 6 ((((1103515245 * (((m.2.2 0) 6).toInt64)) + 12345) &&& 2147483647).toInt32))) fun (m_1 : MS) => ¬ a1 = 0
abbrev rX12_drawn : Room := { frames := 0, cells := 0, slots := 0, locals := 0 }
set_option maxHeartbeats 4000000 in
set_option maxRecDepth 100000 in
theorem mX12_drawn (l : Launch) (dC : Nat → ClassId) (dI : Nat → Nat → Nat) (cI cB cO cL : ClassId) (q : Nat → Nat) (m : MS) (a1 : Int32) (hI : gD (fun _ => True) (mAd q)) (hok : kX12_drawn m a1) : Met l yX12_drawn wsX12_drawn rX12_drawn (gP (dC, dI) (tYS cI cB cO cL) (mw q cI m) [.ref (q 0), .int a1]) (gQi (dC, dI) (fun m9 => mw q cI m9) (wA (mw q cI m)) (pX12_drawn m a1)) 0 0 (wA (mw q cI m)) := by
  refine gMet (cc := cX12_drawn) (maxL := 2) (ret := some .int) [(0, .ref (q 0)), (1, .int a1)] (by decide) rfl rfl rfl ?_
  intro p e s mi below meth c C0 hK hP ls hl
  obtain ⟨hx, hb, hr, hml, hown, hts, hlocks⟩ := id C0
  have hown : s.vm.findClass RX12 = some mi.cls := hown
  have hS : va_S (wA (mw q cI m)) s.heap s.heap [] := va_S.rf
  have hD : gD (wA (mw q cI m)) (mAd q) := gD_wA (ws := mw q cI m) hI
  have hP : va_P (dC, dI) vwCl (mw q cI m) s.heap := hP
  obtain ⟨F, hF⟩ : ∃ F, F = pX12_drawn m a1 := ⟨_, rfl⟩
  have hf := hF
  have hin12 : ∀ w ∈ u_ws RX12 TX12 23, w ∈ wsX12_drawn := by decide +kernel
  have fl7 := hts (.fieldLink RX12 7 "ClickBenchModel" "s" "[I") (by decide +kernel)
  have cn97 := hts (.constantLong RX12 97 (1103515245)) (by decide +kernel)
  have cn99 := hts (.constantLong RX12 99 (12345)) (by decide +kernel)
  have cn101 := hts (.constantLong RX12 101 (2147483647)) (by decide +kernel)
  refine lv_aload_n hx hb dX12_drawn_0 rfl (lv_at hl 0 rfl) ?_
  refine va_get (D := (dC, dI)) (ci := 9) (v := .ref (q 1)) (C := RX12) (T := TX12) (N := 23) hx hb hts hin12 hown hK hP 0 rfl rfl 0 (by decide) fl7 (fun _ h9 => h9) rfl dX12_drawn_1 ?_
  refine lv_bipush (v := 6) hx hb dX12_drawn_4 (by decide) ?_
  refine lv_ldc2 (v := 1103515245) hx hb hown cn97 dX12_drawn_6 ?_
  refine lv_aload_n hx hb dX12_drawn_9 rfl (lv_at hl 0 rfl) ?_
  refine va_get (D := (dC, dI)) (ci := 9) (v := .ref (q 1)) (C := RX12) (T := TX12) (N := 23) hx hb hts hin12 hown hK hP 0 rfl rfl 0 (by decide) fl7 (fun _ h9 => h9) rfl dX12_drawn_10 ?_
  refine lv_bipush (v := 6) hx hb dX12_drawn_13 (by decide) ?_
  refine g_ialdK (D := (dC, dI)) (tys := (tYS cI cB cO cL)) (k := 6) hx hb hK hP 1 0 rfl rfl (by decide) (by decide) (by decide) dX12_drawn_15 ?_
  refine lv_i2l hx hb dX12_drawn_16 rfl ?_
  refine lv_lmul hx hb dX12_drawn_17 ?_
  refine lv_ldc2 (v := 12345) hx hb hown cn99 dX12_drawn_18 ?_
  refine lv_ladd hx hb dX12_drawn_21 ?_
  refine lv_ldc2 (v := 2147483647) hx hb hown cn101 dX12_drawn_22 ?_
  refine lv_land hx hb dX12_drawn_25 ?_
  refine lv_l2i hx hb dX12_drawn_26 rfl ?_
  refine g_iastK (D := (dC, dI)) (tys := (tYS cI cB cO cL)) (k := 6) hx hb hK hP (gD_va hD rfl) hS 1 0 rfl rfl (by decide) (by decide) (by decide) dX12_drawn_27 (fun H locs hP hS => ?_)
  obtain ⟨m_1, em_1⟩ : ∃ z9 : MS, z9 = msa m 0 (upd (m.2.2 0) 6 ((((1103515245 * (((m.2.2 0) 6).toInt64)) + 12345) &&& 2147483647).toInt32)) := ⟨_, rfl⟩
  have hP : va_P (dC, dI) vwCl (mw q cI m_1) H := by rw [em_1]; exact hP
  have hf := lt_eq em_1 hf
  have hok := lt_ok em_1 hok
  refine lv_aload_n hx hb dX12_drawn_28 rfl (lv_at hl 0 rfl) ?_
  refine va_get (D := (dC, dI)) (ci := 9) (v := .ref (q 1)) (C := RX12) (T := TX12) (N := 23) hx hb hts hin12 hown hK hP 0 rfl rfl 0 (by decide) fl7 (fun _ h9 => h9) rfl dX12_drawn_29 ?_
  refine lv_bipush (v := 6) hx hb dX12_drawn_32 (by decide) ?_
  refine g_ialdK (D := (dC, dI)) (tys := (tYS cI cB cO cL)) (k := 6) hx hb hK hP 1 0 rfl rfl (by decide) (by decide) (by decide) dX12_drawn_34 ?_
  refine lv_bipush (v := 16) hx hb dX12_drawn_35 (by decide) ?_
  refine lv_ishr hx hb dX12_drawn_37 ?_
  refine lv_iload_n hx hb dX12_drawn_38 rfl (lv_at hl 1 rfl) ?_
  have h2 : ¬ a1 = 0 := hok
  refine lv_irem hx hb dX12_drawn_39 h2 ?_
  exact e_mi C0 (hf.symm.trans hF) hP hS dX12_drawn_40
noncomputable def pX12_notes_L394   (t1_394 : Int32) (t2_394 : Int32) (t3_394 : Int32) (m_394 : MS) : MS := lt (pX12_puts m_394 t1_394 t2_394 t3_394) fun (u29 : MS) => u29
def kX12_notes_L394   (t1_394 : Int32) (t2_394 : Int32) (t3_394 : Int32) (m_394 : MS) : Prop := kX12_puts m_394 t1_394 t2_394 t3_394
noncomputable def pX12_notes_L370   (v4_370 : Int32) (v5_370 : Int32) (v7_370 : Bool) (t1_370 : Int32) (t2_370 : Int32) (t3_370 : Int32) (m_370 : MS) : MS := lt (pX12_puts m_370 t1_370 t2_370 t3_370) fun (u25 : MS) => if v7_370 = true then (pX12_notes_L394 v4_370 9 ((u25.2.2 8) v5_370.toNatClampNeg) u25) else (pX12_notes_L394 v4_370 9 0 u25)
def kX12_notes_L370   (v4_370 : Int32) (v5_370 : Int32) (v7_370 : Bool) (t1_370 : Int32) (t2_370 : Int32) (t3_370 : Int32) (m_370 : MS) : Prop := (kX12_puts m_370 t1_370 t2_370 t3_370) ∧ (lt (pX12_puts m_370 t1_370 t2_370 t3_370) fun (u25 : MS) => if v7_370 = true then ((vp_in v5_370 17) ∧ (kX12_notes_L394 v4_370 9 ((u25.2.2 8) v5_370.toNatClampNeg) u25)) else (kX12_notes_L394 v4_370 9 0 u25))
noncomputable def pX12_notes_L346   (v4_346 : Int32) (v5_346 : Int32) (v7_346 : Bool) (t1_346 : Int32) (t2_346 : Int32) (t3_346 : Int32) (m_346 : MS) : MS := lt (pX12_puts m_346 t1_346 t2_346 t3_346) fun (u21 : MS) => if v7_346 = true then (pX12_notes_L370 v4_346 v5_346 v7_346 v4_346 8 ((u21.2.2 7) v5_346.toNatClampNeg) u21) else (pX12_notes_L370 v4_346 v5_346 v7_346 v4_346 8 0 u21)
def kX12_notes_L346   (v4_346 : Int32) (v5_346 : Int32) (v7_346 : Bool) (t1_346 : Int32) (t2_346 : Int32) (t3_346 : Int32) (m_346 : MS) : Prop := (kX12_puts m_346 t1_346 t2_346 t3_346) ∧ (lt (pX12_puts m_346 t1_346 t2_346 t3_346) fun (u21 : MS) => if v7_346 = true then ((vp_in v5_346 17) ∧ (kX12_notes_L370 v4_346 v5_346 v7_346 v4_346 8 ((u21.2.2 7) v5_346.toNatClampNeg) u21)) else (kX12_notes_L370 v4_346 v5_346 v7_346 v4_346 8 0 u21))
noncomputable def pX12_notes_L322   (v4_322 : Int32) (v5_322 : Int32) (v7_322 : Bool) (t1_322 : Int32) (t2_322 : Int32) (t3_322 : Int32) (m_322 : MS) : MS := lt (pX12_puts m_322 t1_322 t2_322 t3_322) fun (u17 : MS) => if v7_322 = true then (pX12_notes_L346 v4_322 v5_322 v7_322 v4_322 7 ((u17.2.2 6) v5_322.toNatClampNeg) u17) else (pX12_notes_L346 v4_322 v5_322 v7_322 v4_322 7 0 u17)
def kX12_notes_L322   (v4_322 : Int32) (v5_322 : Int32) (v7_322 : Bool) (t1_322 : Int32) (t2_322 : Int32) (t3_322 : Int32) (m_322 : MS) : Prop := (kX12_puts m_322 t1_322 t2_322 t3_322) ∧ (lt (pX12_puts m_322 t1_322 t2_322 t3_322) fun (u17 : MS) => if v7_322 = true then ((vp_in v5_322 17) ∧ (kX12_notes_L346 v4_322 v5_322 v7_322 v4_322 7 ((u17.2.2 6) v5_322.toNatClampNeg) u17)) else (kX12_notes_L346 v4_322 v5_322 v7_322 v4_322 7 0 u17))
noncomputable def pX12_notes_L298   (v4_298 : Int32) (v5_298 : Int32) (v7_298 : Bool) (t1_298 : Int32) (t2_298 : Int32) (t3_298 : Int32) (m_298 : MS) : MS := lt (pX12_puts m_298 t1_298 t2_298 t3_298) fun (u13 : MS) => if v7_298 = true then (pX12_notes_L322 v4_298 v5_298 v7_298 v4_298 6 ((u13.2.2 4) v5_298.toNatClampNeg) u13) else (pX12_notes_L322 v4_298 v5_298 v7_298 v4_298 6 0 u13)
def kX12_notes_L298   (v4_298 : Int32) (v5_298 : Int32) (v7_298 : Bool) (t1_298 : Int32) (t2_298 : Int32) (t3_298 : Int32) (m_298 : MS) : Prop := (kX12_puts m_298 t1_298 t2_298 t3_298) ∧ (lt (pX12_puts m_298 t1_298 t2_298 t3_298) fun (u13 : MS) => if v7_298 = true then ((vp_in v5_298 17) ∧ (kX12_notes_L322 v4_298 v5_298 v7_298 v4_298 6 ((u13.2.2 4) v5_298.toNatClampNeg) u13)) else (kX12_notes_L322 v4_298 v5_298 v7_298 v4_298 6 0 u13))
noncomputable def pX12_notes_L272   (v4_272 : Int32) (v5_272 : Int32) (v6_272 : Int32) (v7_272 : Bool) (t1_272 : Int32) (t2_272 : Int32) (t3_272 : Bool) (m_272 : MS) : MS := lt (pX12_puts m_272 t1_272 t2_272 (bz t3_272)) fun (u9 : MS) => if v7_272 = true then (pX12_notes_L298 v4_272 v5_272 v7_272 v4_272 5 (v6_272 - (pX12_of u9 v4_272 3)) u9) else (pX12_notes_L298 v4_272 v5_272 v7_272 v4_272 5 0 u9)
def kX12_notes_L272   (v4_272 : Int32) (v5_272 : Int32) (v6_272 : Int32) (v7_272 : Bool) (t1_272 : Int32) (t2_272 : Int32) (t3_272 : Bool) (m_272 : MS) : Prop := (kX12_puts m_272 t1_272 t2_272 (bz t3_272)) ∧ (lt (pX12_puts m_272 t1_272 t2_272 (bz t3_272)) fun (u9 : MS) => if v7_272 = true then ((kX12_of u9 v4_272 3) ∧ (kX12_notes_L298 v4_272 v5_272 v7_272 v4_272 5 (v6_272 - (pX12_of u9 v4_272 3)) u9)) else (kX12_notes_L298 v4_272 v5_272 v7_272 v4_272 5 0 u9))
noncomputable def pX12_notes_L256   (v4_256 : Int32) (v5_256 : Int32) (v6_256 : Int32) (t0_256 : Bool) (m_256 : MS) : MS := if t0_256 = true then (pX12_notes_L272 v4_256 v5_256 v6_256 t0_256 v4_256 4 true m_256) else (pX12_notes_L272 v4_256 v5_256 v6_256 t0_256 v4_256 4 false m_256)
def kX12_notes_L256   (v4_256 : Int32) (v5_256 : Int32) (v6_256 : Int32) (t0_256 : Bool) (m_256 : MS) : Prop := if t0_256 = true then (kX12_notes_L272 v4_256 v5_256 v6_256 t0_256 v4_256 4 true m_256) else (kX12_notes_L272 v4_256 v5_256 v6_256 t0_256 v4_256 4 false m_256)
noncomputable def pX12_notes_L236  (q_18 : Int32 → Int32 → Int32 → Int32 → Int32 → MS → MS) (v3_236 : Int32) (v4_236 : Int32) (v6_236 : Int32) (v7_236 : Int32) (t0_236 : Int32) (m_236 : MS) : MS := lt (v7_236 + 1) fun (x47 : Int32) => q_18 v3_236 v4_236 t0_236 v6_236 x47 m_236
def kX12_notes_L236  (Q_18 : Int32 → Int32 → Int32 → Int32 → Int32 → MS → Prop) (v3_236 : Int32) (v4_236 : Int32) (v6_236 : Int32) (v7_236 : Int32) (t0_236 : Int32) (m_236 : MS) : Prop := lt (v7_236 + 1) fun (x47 : Int32) => Q_18 v3_236 v4_236 t0_236 v6_236 x47 m_236
noncomputable def pX12_notes_L234  (q_18 : Int32 → Int32 → Int32 → Int32 → Int32 → MS → MS) (v3_234 : Int32) (v4_234 : Int32) (v5_234 : Int32) (v6_234 : Int32) (v7_234 : Int32) (m_234 : MS) : MS := pX12_notes_L236 q_18 v3_234 v4_234 v6_234 v7_234 v5_234 m_234
def kX12_notes_L234  (Q_18 : Int32 → Int32 → Int32 → Int32 → Int32 → MS → Prop) (v3_234 : Int32) (v4_234 : Int32) (v5_234 : Int32) (v6_234 : Int32) (v7_234 : Int32) (m_234 : MS) : Prop := kX12_notes_L236 Q_18 v3_234 v4_234 v6_234 v7_234 v5_234 m_234
noncomputable def pX12_notes_L217  (q_18 : Int32 → Int32 → Int32 → Int32 → Int32 → MS → MS) (v3_217 : Int32) (v4_217 : Int32) (v5_217 : Int32) (v7_217 : Int32) (v11_217 : Bool) (v12_217 : Bool) (t0_217 : Int32) (m_217 : MS) : MS := if v11_217 = true then (if v12_217 = true then (pX12_notes_L236 q_18 v3_217 v4_217 t0_217 v7_217 v7_217 m_217) else (pX12_notes_L234 q_18 v3_217 v4_217 v5_217 t0_217 v7_217 m_217)) else (pX12_notes_L234 q_18 v3_217 v4_217 v5_217 t0_217 v7_217 m_217)
def kX12_notes_L217  (Q_18 : Int32 → Int32 → Int32 → Int32 → Int32 → MS → Prop) (v3_217 : Int32) (v4_217 : Int32) (v5_217 : Int32) (v7_217 : Int32) (v11_217 : Bool) (v12_217 : Bool) (t0_217 : Int32) (m_217 : MS) : Prop := if v11_217 = true then (if v12_217 = true then (kX12_notes_L236 Q_18 v3_217 v4_217 t0_217 v7_217 v7_217 m_217) else (kX12_notes_L234 Q_18 v3_217 v4_217 v5_217 t0_217 v7_217 m_217)) else (kX12_notes_L234 Q_18 v3_217 v4_217 v5_217 t0_217 v7_217 m_217)
noncomputable def pX12_notes_L215  (q_18 : Int32 → Int32 → Int32 → Int32 → Int32 → MS → MS) (v3_215 : Int32) (v4_215 : Int32) (v5_215 : Int32) (v6_215 : Int32) (v7_215 : Int32) (v11_215 : Bool) (v12_215 : Bool) (m_215 : MS) : MS := pX12_notes_L217 q_18 v3_215 v4_215 v5_215 v7_215 v11_215 v12_215 v6_215 m_215
def kX12_notes_L215  (Q_18 : Int32 → Int32 → Int32 → Int32 → Int32 → MS → Prop) (v3_215 : Int32) (v4_215 : Int32) (v5_215 : Int32) (v6_215 : Int32) (v7_215 : Int32) (v11_215 : Bool) (v12_215 : Bool) (m_215 : MS) : Prop := kX12_notes_L217 Q_18 v3_215 v4_215 v5_215 v7_215 v11_215 v12_215 v6_215 m_215
noncomputable def pX12_notes_L198  (q_18 : Int32 → Int32 → Int32 → Int32 → Int32 → MS → MS) (v3_198 : Int32) (v4_198 : Int32) (v5_198 : Int32) (v6_198 : Int32) (v7_198 : Int32) (v10_198 : Int32) (v11_198 : Bool) (t0_198 : Bool) (m_198 : MS) : MS := if v11_198 = true then (if t0_198 = true then (pX12_notes_L217 q_18 v3_198 v4_198 v5_198 v7_198 v11_198 t0_198 v10_198 m_198) else (pX12_notes_L215 q_18 v3_198 v4_198 v5_198 v6_198 v7_198 v11_198 t0_198 m_198)) else (pX12_notes_L215 q_18 v3_198 v4_198 v5_198 v6_198 v7_198 v11_198 t0_198 m_198)
def kX12_notes_L198  (Q_18 : Int32 → Int32 → Int32 → Int32 → Int32 → MS → Prop) (v3_198 : Int32) (v4_198 : Int32) (v5_198 : Int32) (v6_198 : Int32) (v7_198 : Int32) (v10_198 : Int32) (v11_198 : Bool) (t0_198 : Bool) (m_198 : MS) : Prop := if v11_198 = true then (if t0_198 = true then (kX12_notes_L217 Q_18 v3_198 v4_198 v5_198 v7_198 v11_198 t0_198 v10_198 m_198) else (kX12_notes_L215 Q_18 v3_198 v4_198 v5_198 v6_198 v7_198 v11_198 t0_198 m_198)) else (kX12_notes_L215 Q_18 v3_198 v4_198 v5_198 v6_198 v7_198 v11_198 t0_198 m_198)
noncomputable def pX12_notes_L193  (q_18 : Int32 → Int32 → Int32 → Int32 → Int32 → MS → MS) (v3_193 : Int32) (v4_193 : Int32) (v5_193 : Int32) (v6_193 : Int32) (v7_193 : Int32) (v10_193 : Int32) (v11_193 : Bool) (m_193 : MS) : MS := pX12_notes_L198 q_18 v3_193 v4_193 v5_193 v6_193 v7_193 v10_193 v11_193 true m_193
def kX12_notes_L193  (Q_18 : Int32 → Int32 → Int32 → Int32 → Int32 → MS → Prop) (v3_193 : Int32) (v4_193 : Int32) (v5_193 : Int32) (v6_193 : Int32) (v7_193 : Int32) (v10_193 : Int32) (v11_193 : Bool) (m_193 : MS) : Prop := kX12_notes_L198 Q_18 v3_193 v4_193 v5_193 v6_193 v7_193 v10_193 v11_193 true m_193
noncomputable def pX12_notes_L197  (q_18 : Int32 → Int32 → Int32 → Int32 → Int32 → MS → MS) (v3_197 : Int32) (v4_197 : Int32) (v5_197 : Int32) (v6_197 : Int32) (v7_197 : Int32) (v10_197 : Int32) (v11_197 : Bool) (m_197 : MS) : MS := pX12_notes_L198 q_18 v3_197 v4_197 v5_197 v6_197 v7_197 v10_197 v11_197 false m_197
def kX12_notes_L197  (Q_18 : Int32 → Int32 → Int32 → Int32 → Int32 → MS → Prop) (v3_197 : Int32) (v4_197 : Int32) (v5_197 : Int32) (v6_197 : Int32) (v7_197 : Int32) (v10_197 : Int32) (v11_197 : Bool) (m_197 : MS) : Prop := kX12_notes_L198 Q_18 v3_197 v4_197 v5_197 v6_197 v7_197 v10_197 v11_197 false m_197
noncomputable def pX12_notes_L147  (q_18 : Int32 → Int32 → Int32 → Int32 → Int32 → MS → MS) (v3_147 : Int32) (v4_147 : Int32) (v5_147 : Int32) (v6_147 : Int32) (v7_147 : Int32) (v10_147 : Int32) (t0_147 : Bool) (m_147 : MS) : MS := if v5_147 = (-1000000000) then (pX12_notes_L193 q_18 v3_147 v4_147 v5_147 v6_147 v7_147 v10_147 t0_147 m_147) else (if ((m_147.2.2 0) 12) = 0 then (if v6_147 ≤ v10_147 then (pX12_notes_L197 q_18 v3_147 v4_147 v5_147 v6_147 v7_147 v10_147 t0_147 m_147) else (pX12_notes_L193 q_18 v3_147 v4_147 v5_147 v6_147 v7_147 v10_147 t0_147 m_147)) else (if ((m_147.2.2 6) v7_147.toNatClampNeg) ≤ ((m_147.2.2 6) v5_147.toNatClampNeg) then (pX12_notes_L197 q_18 v3_147 v4_147 v5_147 v6_147 v7_147 v10_147 t0_147 m_147) else (pX12_notes_L193 q_18 v3_147 v4_147 v5_147 v6_147 v7_147 v10_147 t0_147 m_147)))
def kX12_notes_L147  (Q_18 : Int32 → Int32 → Int32 → Int32 → Int32 → MS → Prop) (v3_147 : Int32) (v4_147 : Int32) (v5_147 : Int32) (v6_147 : Int32) (v7_147 : Int32) (v10_147 : Int32) (t0_147 : Bool) (m_147 : MS) : Prop := if v5_147 = (-1000000000) then (kX12_notes_L193 Q_18 v3_147 v4_147 v5_147 v6_147 v7_147 v10_147 t0_147 m_147) else (if ((m_147.2.2 0) 12) = 0 then (if v6_147 ≤ v10_147 then (kX12_notes_L197 Q_18 v3_147 v4_147 v5_147 v6_147 v7_147 v10_147 t0_147 m_147) else (kX12_notes_L193 Q_18 v3_147 v4_147 v5_147 v6_147 v7_147 v10_147 t0_147 m_147)) else ((vp_in v7_147 17) ∧ ((vp_in v5_147 17) ∧ (if ((m_147.2.2 6) v7_147.toNatClampNeg) ≤ ((m_147.2.2 6) v5_147.toNatClampNeg) then (kX12_notes_L197 Q_18 v3_147 v4_147 v5_147 v6_147 v7_147 v10_147 t0_147 m_147) else (kX12_notes_L193 Q_18 v3_147 v4_147 v5_147 v6_147 v7_147 v10_147 t0_147 m_147)))))
noncomputable def pX12_notes_L146  (q_18 : Int32 → Int32 → Int32 → Int32 → Int32 → MS → MS) (v3_146 : Int32) (v4_146 : Int32) (v5_146 : Int32) (v6_146 : Int32) (v7_146 : Int32) (v10_146 : Int32) (m_146 : MS) : MS := pX12_notes_L147 q_18 v3_146 v4_146 v5_146 v6_146 v7_146 v10_146 false m_146
def kX12_notes_L146  (Q_18 : Int32 → Int32 → Int32 → Int32 → Int32 → MS → Prop) (v3_146 : Int32) (v4_146 : Int32) (v5_146 : Int32) (v6_146 : Int32) (v7_146 : Int32) (v10_146 : Int32) (m_146 : MS) : Prop := kX12_notes_L147 Q_18 v3_146 v4_146 v5_146 v6_146 v7_146 v10_146 false m_146
noncomputable def pX12_notes_L92  (q_18 : Int32 → Int32 → Int32 → Int32 → Int32 → MS → MS) (v3_92 : Int32) (v4_92 : Int32) (v5_92 : Int32) (v6_92 : Int32) (v7_92 : Int32) (v8_92 : Bool) (t0_92 : Int32) (m_92 : MS) : MS := lt (((v3_92 + (pX12_timeOf m_92 ((m_92.2.2 5) v7_92.toNatClampNeg))) + (pX12_of m_92 v4_92 2)) + t0_92) fun (x42 : Int32) => if v8_92 = true then (pX12_notes_L146 q_18 v3_92 v4_92 v5_92 v6_92 v7_92 x42 m_92) else (if ((m_92.2.2 6) v7_92.toNatClampNeg) < ((m_92.2.2 0) 11) then (pX12_notes_L146 q_18 v3_92 v4_92 v5_92 v6_92 v7_92 x42 m_92) else (pX12_notes_L147 q_18 v3_92 v4_92 v5_92 v6_92 v7_92 x42 true m_92))
def kX12_notes_L92  (Q_18 : Int32 → Int32 → Int32 → Int32 → Int32 → MS → Prop) (v3_92 : Int32) (v4_92 : Int32) (v5_92 : Int32) (v6_92 : Int32) (v7_92 : Int32) (v8_92 : Bool) (t0_92 : Int32) (m_92 : MS) : Prop := (vp_in v7_92 17) ∧ ((kX12_timeOf m_92 ((m_92.2.2 5) v7_92.toNatClampNeg)) ∧ ((kX12_of m_92 v4_92 2) ∧ (lt (((v3_92 + (pX12_timeOf m_92 ((m_92.2.2 5) v7_92.toNatClampNeg))) + (pX12_of m_92 v4_92 2)) + t0_92) fun (x42 : Int32) => if v8_92 = true then (kX12_notes_L146 Q_18 v3_92 v4_92 v5_92 v6_92 v7_92 x42 m_92) else ((vp_in v7_92 17) ∧ (if ((m_92.2.2 6) v7_92.toNatClampNeg) < ((m_92.2.2 0) 11) then (kX12_notes_L146 Q_18 v3_92 v4_92 v5_92 v6_92 v7_92 x42 m_92) else (kX12_notes_L147 Q_18 v3_92 v4_92 v5_92 v6_92 v7_92 x42 true m_92))))))
noncomputable def pX12_notes_L91  (q_18 : Int32 → Int32 → Int32 → Int32 → Int32 → MS → MS) (v3_91 : Int32) (v4_91 : Int32) (v5_91 : Int32) (v6_91 : Int32) (v7_91 : Int32) (v8_91 : Bool) (m_91 : MS) : MS := pX12_notes_L92 q_18 v3_91 v4_91 v5_91 v6_91 v7_91 v8_91 0 m_91
def kX12_notes_L91  (Q_18 : Int32 → Int32 → Int32 → Int32 → Int32 → MS → Prop) (v3_91 : Int32) (v4_91 : Int32) (v5_91 : Int32) (v6_91 : Int32) (v7_91 : Int32) (v8_91 : Bool) (m_91 : MS) : Prop := kX12_notes_L92 Q_18 v3_91 v4_91 v5_91 v6_91 v7_91 v8_91 0 m_91
noncomputable def pX12_notes_L48  (q_18 : Int32 → Int32 → Int32 → Int32 → Int32 → MS → MS) (v3_48 : Int32) (v4_48 : Int32) (v5_48 : Int32) (v6_48 : Int32) (v7_48 : Int32) (t0_48 : Bool) (m_48 : MS) : MS := if t0_48 = true then (pX12_notes_L91 q_18 v3_48 v4_48 v5_48 v6_48 v7_48 t0_48 m_48) else (if ((m_48.2.2 0) 10) ≤ 0 then (pX12_notes_L91 q_18 v3_48 v4_48 v5_48 v6_48 v7_48 t0_48 m_48) else (bd (pX12_drawn m_48 ((2 * ((m_48.2.2 0) 10)) + 1)) fun (r60 : Int32) (u61 : MS) => pX12_notes_L92 q_18 v3_48 v4_48 v5_48 v6_48 v7_48 t0_48 (r60 - ((u61.2.2 0) 10)) u61))
def kX12_notes_L48  (Q_18 : Int32 → Int32 → Int32 → Int32 → Int32 → MS → Prop) (v3_48 : Int32) (v4_48 : Int32) (v5_48 : Int32) (v6_48 : Int32) (v7_48 : Int32) (t0_48 : Bool) (m_48 : MS) : Prop := if t0_48 = true then (kX12_notes_L91 Q_18 v3_48 v4_48 v5_48 v6_48 v7_48 t0_48 m_48) else (if ((m_48.2.2 0) 10) ≤ 0 then (kX12_notes_L91 Q_18 v3_48 v4_48 v5_48 v6_48 v7_48 t0_48 m_48) else ((kX12_drawn m_48 ((2 * ((m_48.2.2 0) 10)) + 1)) ∧ (bd (pX12_drawn m_48 ((2 * ((m_48.2.2 0) 10)) + 1)) fun (r60 : Int32) (u61 : MS) => kX12_notes_L92 Q_18 v3_48 v4_48 v5_48 v6_48 v7_48 t0_48 (r60 - ((u61.2.2 0) 10)) u61)))
noncomputable def bX12_notes_L18   (q_18 : Int32 → Int32 → Int32 → Int32 → Int32 → MS → MS) (v3_18 : Int32) (v4_18 : Int32) (v5_18 : Int32) (v6_18 : Int32) (v7_18 : Int32) (m_18 : MS) : MS := if (m_18.1 4) ≤ v7_18 then (if v5_18 = (-1000000000) then (pX12_notes_L256 v4_18 v5_18 v6_18 false m_18) else (pX12_notes_L256 v4_18 v5_18 v6_18 true m_18)) else (bd (pX12_drawn m_18 100) fun (r36 : Int32) (u37 : MS) => if ((u37.2.2 0) 9) ≤ r36 then (pX12_notes_L48 q_18 v3_18 v4_18 v5_18 v6_18 v7_18 false u37) else (pX12_notes_L48 q_18 v3_18 v4_18 v5_18 v6_18 v7_18 true u37))
noncomputable def pX12_notes_L18   : Nat → Int32 → Int32 → Int32 → Int32 → Int32 → MS → MS
  | 0 => fun _ _ _ _ _ m_18 => (m_18)
  | n + 1 => bX12_notes_L18   (pX12_notes_L18   n)
def kbX12_notes_L18   (Q_18 : Int32 → Int32 → Int32 → Int32 → Int32 → MS → Prop) (v3_18 : Int32) (v4_18 : Int32) (v5_18 : Int32) (v6_18 : Int32) (v7_18 : Int32) (m_18 : MS) : Prop := if (m_18.1 4) ≤ v7_18 then (if v5_18 = (-1000000000) then (kX12_notes_L256 v4_18 v5_18 v6_18 false m_18) else (kX12_notes_L256 v4_18 v5_18 v6_18 true m_18)) else ((kX12_drawn m_18 100) ∧ (bd (pX12_drawn m_18 100) fun (r36 : Int32) (u37 : MS) => if ((u37.2.2 0) 9) ≤ r36 then (kX12_notes_L48 Q_18 v3_18 v4_18 v5_18 v6_18 v7_18 false u37) else (kX12_notes_L48 Q_18 v3_18 v4_18 v5_18 v6_18 v7_18 true u37)))
noncomputable def kX12_notes_L18   : Nat → Int32 → Int32 → Int32 → Int32 → Int32 → MS → Prop
  | 0 => fun _ _ _ _ _ _ => False
  | n + 1 => kbX12_notes_L18   (kX12_notes_L18   n)
noncomputable def pX12_notes (m : MS) (a1 : Int32) (a2 : Int32) (a3 : Int32) (a4 : Int32) : MS := lt (pX12_lists m a1 a2 a4) fun (u3 : MS) => pX12_notes_L18 fu a3 a4 (-1000000000) 0 0 u3
def kX12_notes (m : MS) (a1 : Int32) (a2 : Int32) (a3 : Int32) (a4 : Int32) : Prop := (kX12_lists m a1 a2 a4) ∧ (lt (pX12_lists m a1 a2 a4) fun (u3 : MS) => kX12_notes_L18 fu a3 a4 (-1000000000) 0 0 u3)
abbrev rX12_notes : Room := { frames := 4, cells := 0, slots := 0, locals := 101 }
set_option maxHeartbeats 4000000 in
set_option maxRecDepth 100000 in
theorem mX12_notes (l : Launch) (dC : Nat → ClassId) (dI : Nat → Nat → Nat) (cI cB cO cL : ClassId) (q : Nat → Nat) (m : MS) (a1 : Int32) (a2 : Int32) (a3 : Int32) (a4 : Int32) (hI : gD (fun _ => True) (mAd q)) (hok : kX12_notes m a1 a2 a3 a4) : Met l yX12_notes wsX12_notes rX12_notes (gP (dC, dI) (tYS cI cB cO cL) (mw q cI m) [.ref (q 0), .int a1, .int a2, .int a3, .int a4]) (gQv (dC, dI) (fun m9 => mw q cI m9) (wA (mw q cI m)) (pX12_notes m a1 a2 a3 a4)) 0 0 (wA (mw q cI m)) := by
  refine gMet (cc := cX12_notes) (maxL := 13) (ret := none) [(0, .ref (q 0)), (1, .int a1), (2, .int a2), (3, .int a3), (4, .int a4)] (by decide) rfl rfl rfl ?_
  intro p e s mi below meth c C0 hK hP ls hl
  obtain ⟨hx, hb, hr, hml, hown, hts, hlocks⟩ := id C0
  have hown : s.vm.findClass RX12 = some mi.cls := hown
  have hS : va_S (wA (mw q cI m)) s.heap s.heap [] := va_S.rf
  have hD : gD (wA (mw q cI m)) (mAd q) := gD_wA (ws := mw q cI m) hI
  have hP : va_P (dC, dI) vwCl (mw q cI m) s.heap := hP
  obtain ⟨F, hF⟩ : ∃ F, F = pX12_notes m a1 a2 a3 a4 := ⟨_, rfl⟩
  have hf := hF
  have hin12 : ∀ w ∈ u_ws RX12 TX12 23, w ∈ wsX12_notes := by decide +kernel
  have cn71 := hts (.constant RX12 71 (-1000000000)) (by decide +kernel)
  have fl72 := hts (.fieldLink RX12 72 "ClickBenchModel" "listed" "I") (by decide +kernel)
  have fl34 := hts (.fieldLink RX12 34 "ClickBenchModel" "thens" "[I") (by decide +kernel)
  have fl31 := hts (.fieldLink RX12 31 "ClickBenchModel" "firsts" "[I") (by decide +kernel)
  have fl28 := hts (.fieldLink RX12 28 "ClickBenchModel" "strengths" "[I") (by decide +kernel)
  have fl22 := hts (.fieldLink RX12 22 "ClickBenchModel" "kinds" "[I") (by decide +kernel)
  have fl7 := hts (.fieldLink RX12 7 "ClickBenchModel" "s" "[I") (by decide +kernel)
  have fl25 := hts (.fieldLink RX12 25 "ClickBenchModel" "ways" "[I") (by decide +kernel)
  have J_394 : ∀ (t1_394 : Int32) (t2_394 : Int32) (t3_394 : Int32) (m_394 : MS) (H : Heap) (locs : List Loc), va_P (dC, dI) vwCl (mw q cI m_394) H → va_S (wA (mw q cI m)) s.heap H locs → ∀ ls : Array Slot, lv_has ls 13 [] → F = pX12_notes_L394 t1_394 t2_394 t3_394 m_394 → kX12_notes_L394 t1_394 t2_394 t3_394 m_394 → W p l e rX12_notes s mi ([.ref (q 0), .int a1, .int a2, .int a3, .int a4] : List Value).toArray below meth c H locs 0 0 (MQ below (gQv (dC, dI) (fun m9 => mw q cI m9) (wA (mw q cI m)) (pX12_notes m a1 a2 a3 a4)) ([.ref (q 0), .int a1, .int a2, .int a3, .int a4] : List Value).toArray s 0 0 (wA (mw q cI m))) (F0 mi 394 ls [.int t3_394, .int t2_394, .int t1_394, .ref (q 0)]) := by
    intro t1_394 t2_394 t3_394 m_394 H locs hP hS ls hl hf hok
    have h27 : kX12_puts m_394 t1_394 t2_394 t3_394 := hok
    refine gms_v (va_runV (As := [.int t1_394, .int t2_394, .int t3_394]) (rest := []) ⟨hx, hb, hml, hown, hts⟩ (mX12_puts l dC dI cI cB cO cL q m_394 t1_394 t2_394 t3_394 (gD_any hD) h27) (cwV 3 hts gX12_notes_X12_puts rfl rfl rfl (by decide +kernel) ⟨Nat.le_of_ble_eq_true rfl, Nat.le_of_ble_eq_true rfl⟩) ⟨gP_blind, va_recv hK hP (ci := 9) (q0 := 0) rfl rfl, gP_ok hP hK⟩ rfl rfl hl.1 rfl (lv_room (Nat.le_of_ble_eq_true rfl)) dX12_notes_394 ⟨Nat.zero_le _, Nat.zero_le _⟩) hP (gD_va hD rfl) hS (fun u29 H locs hw hP hS => ?_)
    have hP : va_P (dC, dI) vwCl (mw q cI u29) H := hP
    have hf := lt_eq hw hf
    exact e_mv C0 (hf.symm.trans hF) hP hS dX12_notes_397
  have J_370 : ∀ (v4_370 : Int32) (v5_370 : Int32) (v7_370 : Bool) (t1_370 : Int32) (t2_370 : Int32) (t3_370 : Int32) (m_370 : MS) (H : Heap) (locs : List Loc), va_P (dC, dI) vwCl (mw q cI m_370) H → va_S (wA (mw q cI m)) s.heap H locs → ∀ ls : Array Slot, lv_has ls 13 [(0, .ref (q 0)), (4, .int v4_370), (5, .int v5_370), (7, .int (bz v7_370))] → F = pX12_notes_L370 v4_370 v5_370 v7_370 t1_370 t2_370 t3_370 m_370 → kX12_notes_L370 v4_370 v5_370 v7_370 t1_370 t2_370 t3_370 m_370 → W p l e rX12_notes s mi ([.ref (q 0), .int a1, .int a2, .int a3, .int a4] : List Value).toArray below meth c H locs 0 0 (MQ below (gQv (dC, dI) (fun m9 => mw q cI m9) (wA (mw q cI m)) (pX12_notes m a1 a2 a3 a4)) ([.ref (q 0), .int a1, .int a2, .int a3, .int a4] : List Value).toArray s 0 0 (wA (mw q cI m))) (F0 mi 370 ls [.int t3_370, .int t2_370, .int t1_370, .ref (q 0)]) := by
    intro v4_370 v5_370 v7_370 t1_370 t2_370 t3_370 m_370 H locs hP hS ls hl hf hok
    obtain ⟨h23, hok⟩ := hok
    refine gms_v (va_runV (As := [.int t1_370, .int t2_370, .int t3_370]) (rest := []) ⟨hx, hb, hml, hown, hts⟩ (mX12_puts l dC dI cI cB cO cL q m_370 t1_370 t2_370 t3_370 (gD_any hD) h23) (cwV 3 hts gX12_notes_X12_puts rfl rfl rfl (by decide +kernel) ⟨Nat.le_of_ble_eq_true rfl, Nat.le_of_ble_eq_true rfl⟩) ⟨gP_blind, va_recv hK hP (ci := 9) (q0 := 0) rfl rfl, gP_ok hP hK⟩ rfl rfl hl.1 rfl (lv_room (Nat.le_of_ble_eq_true rfl)) dX12_notes_370 ⟨Nat.zero_le _, Nat.zero_le _⟩) hP (gD_va hD rfl) hS (fun u25 H locs hw hP hS => ?_)
    have hP : va_P (dC, dI) vwCl (mw q cI u25) H := hP
    have hf := lt_eq hw hf
    have hok := lt_ok hw hok
    refine lv_aload_n hx hb dX12_notes_373 rfl (lv_at hl 0 rfl) ?_
    refine lv_iload hx hb dX12_notes_374 (lv_at hl 1 rfl) ?_
    refine lv_bipush (v := 9) hx hb dX12_notes_376 (by decide) ?_
    refine lv_iload hx hb dX12_notes_378 (lv_at hl 3 rfl) ?_
    refine lv_if_eq (tgt := 393) hx hb dX12_notes_380 (by decide) (fun c26 => ?_) (fun c26 => ?_)
    · have c26 := bz_f c26
      have hf := ie_eq c26 hf
      have hok := ie_ok c26 hok
      refine lv_iconst (v := 0) hx hb dX12_notes_393 (by decide) ?_
      exact J_394 v4_370 9 0 u25 _ _ hP hS _ (lv_sub hl [] rfl) hf hok
    · have c26 := bz_t c26
      have hf := it_eq c26 hf
      have hok := it_ok c26 hok
      refine lv_aload_n hx hb dX12_notes_383 rfl (lv_at hl 0 rfl) ?_
      refine va_get (D := (dC, dI)) (ci := 9) (v := .ref (q 9)) (C := RX12) (T := TX12) (N := 23) hx hb hts hin12 hown hK hP 0 rfl rfl 12 (by decide) fl34 (fun _ h9 => h9) rfl dX12_notes_384 ?_
      refine lv_iload hx hb dX12_notes_387 (lv_at hl 2 rfl) ?_
      obtain ⟨h30, hok⟩ := hok
      refine va_iald (D := (dC, dI)) (tys := (tYS cI cB cO cL)) hx hb hK hP 9 0 rfl rfl h30 dX12_notes_389 ?_
      refine lv_goto (tgt := 394) hx hb dX12_notes_390 (by decide) ?_
      exact J_394 v4_370 9 ((u25.2.2 8) v5_370.toNatClampNeg) u25 _ _ hP hS _ (lv_sub hl [] rfl) hf hok
  have J_346 : ∀ (v4_346 : Int32) (v5_346 : Int32) (v7_346 : Bool) (t1_346 : Int32) (t2_346 : Int32) (t3_346 : Int32) (m_346 : MS) (H : Heap) (locs : List Loc), va_P (dC, dI) vwCl (mw q cI m_346) H → va_S (wA (mw q cI m)) s.heap H locs → ∀ ls : Array Slot, lv_has ls 13 [(0, .ref (q 0)), (4, .int v4_346), (5, .int v5_346), (7, .int (bz v7_346))] → F = pX12_notes_L346 v4_346 v5_346 v7_346 t1_346 t2_346 t3_346 m_346 → kX12_notes_L346 v4_346 v5_346 v7_346 t1_346 t2_346 t3_346 m_346 → W p l e rX12_notes s mi ([.ref (q 0), .int a1, .int a2, .int a3, .int a4] : List Value).toArray below meth c H locs 0 0 (MQ below (gQv (dC, dI) (fun m9 => mw q cI m9) (wA (mw q cI m)) (pX12_notes m a1 a2 a3 a4)) ([.ref (q 0), .int a1, .int a2, .int a3, .int a4] : List Value).toArray s 0 0 (wA (mw q cI m))) (F0 mi 346 ls [.int t3_346, .int t2_346, .int t1_346, .ref (q 0)]) := by
    intro v4_346 v5_346 v7_346 t1_346 t2_346 t3_346 m_346 H locs hP hS ls hl hf hok
    obtain ⟨h19, hok⟩ := hok
    refine gms_v (va_runV (As := [.int t1_346, .int t2_346, .int t3_346]) (rest := []) ⟨hx, hb, hml, hown, hts⟩ (mX12_puts l dC dI cI cB cO cL q m_346 t1_346 t2_346 t3_346 (gD_any hD) h19) (cwV 3 hts gX12_notes_X12_puts rfl rfl rfl (by decide +kernel) ⟨Nat.le_of_ble_eq_true rfl, Nat.le_of_ble_eq_true rfl⟩) ⟨gP_blind, va_recv hK hP (ci := 9) (q0 := 0) rfl rfl, gP_ok hP hK⟩ rfl rfl hl.1 rfl (lv_room (Nat.le_of_ble_eq_true rfl)) dX12_notes_346 ⟨Nat.zero_le _, Nat.zero_le _⟩) hP (gD_va hD rfl) hS (fun u21 H locs hw hP hS => ?_)
    have hP : va_P (dC, dI) vwCl (mw q cI u21) H := hP
    have hf := lt_eq hw hf
    have hok := lt_ok hw hok
    refine lv_aload_n hx hb dX12_notes_349 rfl (lv_at hl 0 rfl) ?_
    refine lv_iload hx hb dX12_notes_350 (lv_at hl 1 rfl) ?_
    refine lv_bipush (v := 8) hx hb dX12_notes_352 (by decide) ?_
    refine lv_iload hx hb dX12_notes_354 (lv_at hl 3 rfl) ?_
    refine lv_if_eq (tgt := 369) hx hb dX12_notes_356 (by decide) (fun c22 => ?_) (fun c22 => ?_)
    · have c22 := bz_f c22
      have hf := ie_eq c22 hf
      have hok := ie_ok c22 hok
      refine lv_iconst (v := 0) hx hb dX12_notes_369 (by decide) ?_
      exact J_370 v4_346 v5_346 v7_346 v4_346 8 0 u21 _ _ hP hS _ (lv_sub hl [0, 1, 2, 3] rfl) hf hok
    · have c22 := bz_t c22
      have hf := it_eq c22 hf
      have hok := it_ok c22 hok
      refine lv_aload_n hx hb dX12_notes_359 rfl (lv_at hl 0 rfl) ?_
      refine va_get (D := (dC, dI)) (ci := 9) (v := .ref (q 8)) (C := RX12) (T := TX12) (N := 23) hx hb hts hin12 hown hK hP 0 rfl rfl 11 (by decide) fl31 (fun _ h9 => h9) rfl dX12_notes_360 ?_
      refine lv_iload hx hb dX12_notes_363 (lv_at hl 2 rfl) ?_
      obtain ⟨h31, hok⟩ := hok
      refine va_iald (D := (dC, dI)) (tys := (tYS cI cB cO cL)) hx hb hK hP 8 0 rfl rfl h31 dX12_notes_365 ?_
      refine lv_goto (tgt := 370) hx hb dX12_notes_366 (by decide) ?_
      exact J_370 v4_346 v5_346 v7_346 v4_346 8 ((u21.2.2 7) v5_346.toNatClampNeg) u21 _ _ hP hS _ (lv_sub hl [0, 1, 2, 3] rfl) hf hok
  have J_322 : ∀ (v4_322 : Int32) (v5_322 : Int32) (v7_322 : Bool) (t1_322 : Int32) (t2_322 : Int32) (t3_322 : Int32) (m_322 : MS) (H : Heap) (locs : List Loc), va_P (dC, dI) vwCl (mw q cI m_322) H → va_S (wA (mw q cI m)) s.heap H locs → ∀ ls : Array Slot, lv_has ls 13 [(0, .ref (q 0)), (4, .int v4_322), (5, .int v5_322), (7, .int (bz v7_322))] → F = pX12_notes_L322 v4_322 v5_322 v7_322 t1_322 t2_322 t3_322 m_322 → kX12_notes_L322 v4_322 v5_322 v7_322 t1_322 t2_322 t3_322 m_322 → W p l e rX12_notes s mi ([.ref (q 0), .int a1, .int a2, .int a3, .int a4] : List Value).toArray below meth c H locs 0 0 (MQ below (gQv (dC, dI) (fun m9 => mw q cI m9) (wA (mw q cI m)) (pX12_notes m a1 a2 a3 a4)) ([.ref (q 0), .int a1, .int a2, .int a3, .int a4] : List Value).toArray s 0 0 (wA (mw q cI m))) (F0 mi 322 ls [.int t3_322, .int t2_322, .int t1_322, .ref (q 0)]) := by
    intro v4_322 v5_322 v7_322 t1_322 t2_322 t3_322 m_322 H locs hP hS ls hl hf hok
    obtain ⟨h15, hok⟩ := hok
    refine gms_v (va_runV (As := [.int t1_322, .int t2_322, .int t3_322]) (rest := []) ⟨hx, hb, hml, hown, hts⟩ (mX12_puts l dC dI cI cB cO cL q m_322 t1_322 t2_322 t3_322 (gD_any hD) h15) (cwV 3 hts gX12_notes_X12_puts rfl rfl rfl (by decide +kernel) ⟨Nat.le_of_ble_eq_true rfl, Nat.le_of_ble_eq_true rfl⟩) ⟨gP_blind, va_recv hK hP (ci := 9) (q0 := 0) rfl rfl, gP_ok hP hK⟩ rfl rfl hl.1 rfl (lv_room (Nat.le_of_ble_eq_true rfl)) dX12_notes_322 ⟨Nat.zero_le _, Nat.zero_le _⟩) hP (gD_va hD rfl) hS (fun u17 H locs hw hP hS => ?_)
    have hP : va_P (dC, dI) vwCl (mw q cI u17) H := hP
    have hf := lt_eq hw hf
    have hok := lt_ok hw hok
    refine lv_aload_n hx hb dX12_notes_325 rfl (lv_at hl 0 rfl) ?_
    refine lv_iload hx hb dX12_notes_326 (lv_at hl 1 rfl) ?_
    refine lv_bipush (v := 7) hx hb dX12_notes_328 (by decide) ?_
    refine lv_iload hx hb dX12_notes_330 (lv_at hl 3 rfl) ?_
    refine lv_if_eq (tgt := 345) hx hb dX12_notes_332 (by decide) (fun c18 => ?_) (fun c18 => ?_)
    · have c18 := bz_f c18
      have hf := ie_eq c18 hf
      have hok := ie_ok c18 hok
      refine lv_iconst (v := 0) hx hb dX12_notes_345 (by decide) ?_
      exact J_346 v4_322 v5_322 v7_322 v4_322 7 0 u17 _ _ hP hS _ (lv_sub hl [0, 1, 2, 3] rfl) hf hok
    · have c18 := bz_t c18
      have hf := it_eq c18 hf
      have hok := it_ok c18 hok
      refine lv_aload_n hx hb dX12_notes_335 rfl (lv_at hl 0 rfl) ?_
      refine va_get (D := (dC, dI)) (ci := 9) (v := .ref (q 7)) (C := RX12) (T := TX12) (N := 23) hx hb hts hin12 hown hK hP 0 rfl rfl 10 (by decide) fl28 (fun _ h9 => h9) rfl dX12_notes_336 ?_
      refine lv_iload hx hb dX12_notes_339 (lv_at hl 2 rfl) ?_
      obtain ⟨h32, hok⟩ := hok
      refine va_iald (D := (dC, dI)) (tys := (tYS cI cB cO cL)) hx hb hK hP 7 0 rfl rfl h32 dX12_notes_341 ?_
      refine lv_goto (tgt := 346) hx hb dX12_notes_342 (by decide) ?_
      exact J_346 v4_322 v5_322 v7_322 v4_322 7 ((u17.2.2 6) v5_322.toNatClampNeg) u17 _ _ hP hS _ (lv_sub hl [0, 1, 2, 3] rfl) hf hok
  have J_298 : ∀ (v4_298 : Int32) (v5_298 : Int32) (v7_298 : Bool) (t1_298 : Int32) (t2_298 : Int32) (t3_298 : Int32) (m_298 : MS) (H : Heap) (locs : List Loc), va_P (dC, dI) vwCl (mw q cI m_298) H → va_S (wA (mw q cI m)) s.heap H locs → ∀ ls : Array Slot, lv_has ls 13 [(0, .ref (q 0)), (4, .int v4_298), (5, .int v5_298), (7, .int (bz v7_298))] → F = pX12_notes_L298 v4_298 v5_298 v7_298 t1_298 t2_298 t3_298 m_298 → kX12_notes_L298 v4_298 v5_298 v7_298 t1_298 t2_298 t3_298 m_298 → W p l e rX12_notes s mi ([.ref (q 0), .int a1, .int a2, .int a3, .int a4] : List Value).toArray below meth c H locs 0 0 (MQ below (gQv (dC, dI) (fun m9 => mw q cI m9) (wA (mw q cI m)) (pX12_notes m a1 a2 a3 a4)) ([.ref (q 0), .int a1, .int a2, .int a3, .int a4] : List Value).toArray s 0 0 (wA (mw q cI m))) (F0 mi 298 ls [.int t3_298, .int t2_298, .int t1_298, .ref (q 0)]) := by
    intro v4_298 v5_298 v7_298 t1_298 t2_298 t3_298 m_298 H locs hP hS ls hl hf hok
    obtain ⟨h11, hok⟩ := hok
    refine gms_v (va_runV (As := [.int t1_298, .int t2_298, .int t3_298]) (rest := []) ⟨hx, hb, hml, hown, hts⟩ (mX12_puts l dC dI cI cB cO cL q m_298 t1_298 t2_298 t3_298 (gD_any hD) h11) (cwV 3 hts gX12_notes_X12_puts rfl rfl rfl (by decide +kernel) ⟨Nat.le_of_ble_eq_true rfl, Nat.le_of_ble_eq_true rfl⟩) ⟨gP_blind, va_recv hK hP (ci := 9) (q0 := 0) rfl rfl, gP_ok hP hK⟩ rfl rfl hl.1 rfl (lv_room (Nat.le_of_ble_eq_true rfl)) dX12_notes_298 ⟨Nat.zero_le _, Nat.zero_le _⟩) hP (gD_va hD rfl) hS (fun u13 H locs hw hP hS => ?_)
    have hP : va_P (dC, dI) vwCl (mw q cI u13) H := hP
    have hf := lt_eq hw hf
    have hok := lt_ok hw hok
    refine lv_aload_n hx hb dX12_notes_301 rfl (lv_at hl 0 rfl) ?_
    refine lv_iload hx hb dX12_notes_302 (lv_at hl 1 rfl) ?_
    refine lv_bipush (v := 6) hx hb dX12_notes_304 (by decide) ?_
    refine lv_iload hx hb dX12_notes_306 (lv_at hl 3 rfl) ?_
    refine lv_if_eq (tgt := 321) hx hb dX12_notes_308 (by decide) (fun c14 => ?_) (fun c14 => ?_)
    · have c14 := bz_f c14
      have hf := ie_eq c14 hf
      have hok := ie_ok c14 hok
      refine lv_iconst (v := 0) hx hb dX12_notes_321 (by decide) ?_
      exact J_322 v4_298 v5_298 v7_298 v4_298 6 0 u13 _ _ hP hS _ (lv_sub hl [0, 1, 2, 3] rfl) hf hok
    · have c14 := bz_t c14
      have hf := it_eq c14 hf
      have hok := it_ok c14 hok
      refine lv_aload_n hx hb dX12_notes_311 rfl (lv_at hl 0 rfl) ?_
      refine va_get (D := (dC, dI)) (ci := 9) (v := .ref (q 5)) (C := RX12) (T := TX12) (N := 23) hx hb hts hin12 hown hK hP 0 rfl rfl 8 (by decide) fl22 (fun _ h9 => h9) rfl dX12_notes_312 ?_
      refine lv_iload hx hb dX12_notes_315 (lv_at hl 2 rfl) ?_
      obtain ⟨h33, hok⟩ := hok
      refine va_iald (D := (dC, dI)) (tys := (tYS cI cB cO cL)) hx hb hK hP 5 0 rfl rfl h33 dX12_notes_317 ?_
      refine lv_goto (tgt := 322) hx hb dX12_notes_318 (by decide) ?_
      exact J_322 v4_298 v5_298 v7_298 v4_298 6 ((u13.2.2 4) v5_298.toNatClampNeg) u13 _ _ hP hS _ (lv_sub hl [0, 1, 2, 3] rfl) hf hok
  have J_272 : ∀ (v4_272 : Int32) (v5_272 : Int32) (v6_272 : Int32) (v7_272 : Bool) (t1_272 : Int32) (t2_272 : Int32) (t3_272 : Bool) (m_272 : MS) (H : Heap) (locs : List Loc), va_P (dC, dI) vwCl (mw q cI m_272) H → va_S (wA (mw q cI m)) s.heap H locs → ∀ ls : Array Slot, lv_has ls 13 [(0, .ref (q 0)), (4, .int v4_272), (5, .int v5_272), (6, .int v6_272), (7, .int (bz v7_272))] → F = pX12_notes_L272 v4_272 v5_272 v6_272 v7_272 t1_272 t2_272 t3_272 m_272 → kX12_notes_L272 v4_272 v5_272 v6_272 v7_272 t1_272 t2_272 t3_272 m_272 → W p l e rX12_notes s mi ([.ref (q 0), .int a1, .int a2, .int a3, .int a4] : List Value).toArray below meth c H locs 0 0 (MQ below (gQv (dC, dI) (fun m9 => mw q cI m9) (wA (mw q cI m)) (pX12_notes m a1 a2 a3 a4)) ([.ref (q 0), .int a1, .int a2, .int a3, .int a4] : List Value).toArray s 0 0 (wA (mw q cI m))) (F0 mi 272 ls [.int (bz t3_272), .int t2_272, .int t1_272, .ref (q 0)]) := by
    intro v4_272 v5_272 v6_272 v7_272 t1_272 t2_272 t3_272 m_272 H locs hP hS ls hl hf hok
    obtain ⟨h7, hok⟩ := hok
    refine gms_v (va_runV (As := [.int t1_272, .int t2_272, .int (bz t3_272)]) (rest := []) ⟨hx, hb, hml, hown, hts⟩ (mX12_puts l dC dI cI cB cO cL q m_272 t1_272 t2_272 (bz t3_272) (gD_any hD) h7) (cwV 3 hts gX12_notes_X12_puts rfl rfl rfl (by decide +kernel) ⟨Nat.le_of_ble_eq_true rfl, Nat.le_of_ble_eq_true rfl⟩) ⟨gP_blind, va_recv hK hP (ci := 9) (q0 := 0) rfl rfl, gP_ok hP hK⟩ rfl rfl hl.1 rfl (lv_room (Nat.le_of_ble_eq_true rfl)) dX12_notes_272 ⟨Nat.zero_le _, Nat.zero_le _⟩) hP (gD_va hD rfl) hS (fun u9 H locs hw hP hS => ?_)
    have hP : va_P (dC, dI) vwCl (mw q cI u9) H := hP
    have hf := lt_eq hw hf
    have hok := lt_ok hw hok
    refine lv_aload_n hx hb dX12_notes_275 rfl (lv_at hl 0 rfl) ?_
    refine lv_iload hx hb dX12_notes_276 (lv_at hl 1 rfl) ?_
    refine lv_iconst (v := 5) hx hb dX12_notes_278 (by decide) ?_
    refine lv_iload hx hb dX12_notes_279 (lv_at hl 4 rfl) ?_
    refine lv_if_eq (tgt := 297) hx hb dX12_notes_281 (by decide) (fun c10 => ?_) (fun c10 => ?_)
    · have c10 := bz_f c10
      have hf := ie_eq c10 hf
      have hok := ie_ok c10 hok
      refine lv_iconst (v := 0) hx hb dX12_notes_297 (by decide) ?_
      exact J_298 v4_272 v5_272 v7_272 v4_272 5 0 u9 _ _ hP hS _ (lv_sub hl [0, 1, 2, 4] rfl) hf hok
    · have c10 := bz_t c10
      have hf := it_eq c10 hf
      have hok := it_ok c10 hok
      refine lv_iload hx hb dX12_notes_284 (lv_at hl 3 rfl) ?_
      refine lv_aload_n hx hb dX12_notes_286 rfl (lv_at hl 0 rfl) ?_
      refine lv_iload hx hb dX12_notes_287 (lv_at hl 1 rfl) ?_
      refine lv_iconst (v := 3) hx hb dX12_notes_289 (by decide) ?_
      obtain ⟨h34, hok⟩ := hok
      refine gro_i (va_runV (As := [.int v4_272, .int 3]) (rest := [.int v6_272, .int 5, .int v4_272, .ref (q 0)]) ⟨hx, hb, hml, hown, hts⟩ (mX12_of l dC dI cI cB cO cL q u9 v4_272 3  h34) (cwV 2 hts gX12_notes_X12_of rfl rfl rfl (by decide +kernel) ⟨Nat.le_of_ble_eq_true rfl, Nat.le_of_ble_eq_true rfl⟩) ⟨gP_blind, va_recv hK hP (ci := 9) (q0 := 0) rfl rfl, gP_ok hP hK⟩ rfl rfl hl.1 rfl (lv_room (Nat.le_of_ble_eq_true rfl)) dX12_notes_290 ⟨Nat.zero_le _, Nat.zero_le _⟩) ?_
      refine lv_isub hx hb dX12_notes_293 ?_
      refine lv_goto (tgt := 298) hx hb dX12_notes_294 (by decide) ?_
      exact J_298 v4_272 v5_272 v7_272 v4_272 5 (v6_272 - (pX12_of u9 v4_272 3)) u9 _ _ hP hS _ (lv_sub hl [0, 1, 2, 4] rfl) hf hok
  have J_256 : ∀ (v4_256 : Int32) (v5_256 : Int32) (v6_256 : Int32) (t0_256 : Bool) (m_256 : MS) (H : Heap) (locs : List Loc), va_P (dC, dI) vwCl (mw q cI m_256) H → va_S (wA (mw q cI m)) s.heap H locs → ∀ ls : Array Slot, lv_has ls 13 [(0, .ref (q 0)), (4, .int v4_256), (5, .int v5_256), (6, .int v6_256)] → F = pX12_notes_L256 v4_256 v5_256 v6_256 t0_256 m_256 → kX12_notes_L256 v4_256 v5_256 v6_256 t0_256 m_256 → W p l e rX12_notes s mi ([.ref (q 0), .int a1, .int a2, .int a3, .int a4] : List Value).toArray below meth c H locs 0 0 (MQ below (gQv (dC, dI) (fun m9 => mw q cI m9) (wA (mw q cI m)) (pX12_notes m a1 a2 a3 a4)) ([.ref (q 0), .int a1, .int a2, .int a3, .int a4] : List Value).toArray s 0 0 (wA (mw q cI m))) (F0 mi 256 ls [.int (bz t0_256)]) := by
    intro v4_256 v5_256 v6_256 t0_256 m_256 H locs hP hS ls hl hf hok
    refine lv_istore (lv' := [(7, .int (bz t0_256)), (0, .ref (q 0)), (4, .int v4_256), (5, .int v5_256), (6, .int v6_256)]) hx hb dX12_notes_256 hl (by decide) rfl (fun ls hl => ?_)
    refine lv_aload_n hx hb dX12_notes_258 rfl (lv_at hl 1 rfl) ?_
    refine lv_iload hx hb dX12_notes_259 (lv_at hl 2 rfl) ?_
    refine lv_iconst (v := 4) hx hb dX12_notes_261 (by decide) ?_
    refine lv_iload hx hb dX12_notes_262 (lv_at hl 0 rfl) ?_
    refine lv_if_eq (tgt := 271) hx hb dX12_notes_264 (by decide) (fun c6 => ?_) (fun c6 => ?_)
    · have c6 := bz_f c6
      have hf := ie_eq c6 hf
      have hok := ie_ok c6 hok
      refine lv_iconst (v := 0) hx hb dX12_notes_271 (by decide) ?_
      exact J_272 v4_256 v5_256 v6_256 t0_256 v4_256 4 false m_256 _ _ hP hS _ (lv_sub hl [1, 2, 3, 4, 0] rfl) hf hok
    · have c6 := bz_t c6
      have hf := it_eq c6 hf
      have hok := it_ok c6 hok
      refine lv_iconst (v := 1) hx hb dX12_notes_267 (by decide) ?_
      refine lv_goto (tgt := 272) hx hb dX12_notes_268 (by decide) ?_
      exact J_272 v4_256 v5_256 v6_256 t0_256 v4_256 4 true m_256 _ _ hP hS _ (lv_sub hl [1, 2, 3, 4, 0] rfl) hf hok
  have J_18 : ∀ (n_18 : Nat) (v3_18 : Int32) (v4_18 : Int32) (v5_18 : Int32) (v6_18 : Int32) (v7_18 : Int32) (m_18 : MS) (H : Heap) (locs : List Loc), va_P (dC, dI) vwCl (mw q cI m_18) H → va_S (wA (mw q cI m)) s.heap H locs → ∀ ls : Array Slot, lv_has ls 13 [(0, .ref (q 0)), (3, .int v3_18), (4, .int v4_18), (5, .int v5_18), (6, .int v6_18), (7, .int v7_18)] → F = pX12_notes_L18 n_18 v3_18 v4_18 v5_18 v6_18 v7_18 m_18 → kX12_notes_L18 n_18 v3_18 v4_18 v5_18 v6_18 v7_18 m_18 → W p l e rX12_notes s mi ([.ref (q 0), .int a1, .int a2, .int a3, .int a4] : List Value).toArray below meth c H locs 0 0 (MQ below (gQv (dC, dI) (fun m9 => mw q cI m9) (wA (mw q cI m)) (pX12_notes m a1 a2 a3 a4)) ([.ref (q 0), .int a1, .int a2, .int a3, .int a4] : List Value).toArray s 0 0 (wA (mw q cI m))) (F0 mi 18 ls []) := by
    intro n_18
    induction n_18 with
    | zero =>
      intro v3_18 v4_18 v5_18 v6_18 v7_18 m_18 H locs hP hS ls hl hf hok
      exact absurd hok (fun h => h)
    | succ n_18 ih_18 =>
      have J_236 : ∀ (v3_236 : Int32) (v4_236 : Int32) (v6_236 : Int32) (v7_236 : Int32) (t0_236 : Int32) (m_236 : MS) (H : Heap) (locs : List Loc), va_P (dC, dI) vwCl (mw q cI m_236) H → va_S (wA (mw q cI m)) s.heap H locs → ∀ ls : Array Slot, lv_has ls 13 [(0, .ref (q 0)), (3, .int v3_236), (4, .int v4_236), (6, .int v6_236), (7, .int v7_236)] → F = pX12_notes_L236 (pX12_notes_L18 n_18) v3_236 v4_236 v6_236 v7_236 t0_236 m_236 → kX12_notes_L236 (kX12_notes_L18 n_18) v3_236 v4_236 v6_236 v7_236 t0_236 m_236 → W p l e rX12_notes s mi ([.ref (q 0), .int a1, .int a2, .int a3, .int a4] : List Value).toArray below meth c H locs 0 0 (MQ below (gQv (dC, dI) (fun m9 => mw q cI m9) (wA (mw q cI m)) (pX12_notes m a1 a2 a3 a4)) ([.ref (q 0), .int a1, .int a2, .int a3, .int a4] : List Value).toArray s 0 0 (wA (mw q cI m))) (F0 mi 236 ls [.int t0_236]) := by
        intro v3_236 v4_236 v6_236 v7_236 t0_236 m_236 H locs hP hS ls hl hf hok
        refine lv_istore (lv' := [(5, .int t0_236), (0, .ref (q 0)), (3, .int v3_236), (4, .int v4_236), (6, .int v6_236), (7, .int v7_236)]) hx hb dX12_notes_236 hl (by decide) rfl (fun ls hl => ?_)
        obtain ⟨x47, ex47⟩ : ∃ y : Int32, y = v7_236 + 1 := ⟨_, rfl⟩
        refine lv_iinc (v := x47) (lv' := [(7, .int x47), (5, .int t0_236), (0, .ref (q 0)), (3, .int v3_236), (4, .int v4_236), (6, .int v6_236)]) hx hb dX12_notes_238 hl (k := 5) rfl (by rw [ex47]; rfl) (by decide) rfl (fun ls hl => ?_)
        have hf := lt_eq ex47 hf
        have hok := lt_ok ex47 hok
        refine lv_goto (tgt := 18) hx hb dX12_notes_241 (by decide) ?_
        exact ih_18 v3_236 v4_236 t0_236 v6_236 x47 m_236 _ _ hP hS _ (lv_sub hl [2, 3, 4, 1, 5, 0] rfl) hf hok
      have J_234 : ∀ (v3_234 : Int32) (v4_234 : Int32) (v5_234 : Int32) (v6_234 : Int32) (v7_234 : Int32) (m_234 : MS) (H : Heap) (locs : List Loc), va_P (dC, dI) vwCl (mw q cI m_234) H → va_S (wA (mw q cI m)) s.heap H locs → ∀ ls : Array Slot, lv_has ls 13 [(0, .ref (q 0)), (3, .int v3_234), (4, .int v4_234), (5, .int v5_234), (6, .int v6_234), (7, .int v7_234)] → F = pX12_notes_L234 (pX12_notes_L18 n_18) v3_234 v4_234 v5_234 v6_234 v7_234 m_234 → kX12_notes_L234 (kX12_notes_L18 n_18) v3_234 v4_234 v5_234 v6_234 v7_234 m_234 → W p l e rX12_notes s mi ([.ref (q 0), .int a1, .int a2, .int a3, .int a4] : List Value).toArray below meth c H locs 0 0 (MQ below (gQv (dC, dI) (fun m9 => mw q cI m9) (wA (mw q cI m)) (pX12_notes m a1 a2 a3 a4)) ([.ref (q 0), .int a1, .int a2, .int a3, .int a4] : List Value).toArray s 0 0 (wA (mw q cI m))) (F0 mi 234 ls []) := by
        intro v3_234 v4_234 v5_234 v6_234 v7_234 m_234 H locs hP hS ls hl hf hok
        refine lv_iload hx hb dX12_notes_234 (lv_at hl 3 rfl) ?_
        exact J_236 v3_234 v4_234 v6_234 v7_234 v5_234 m_234 _ _ hP hS _ (lv_sub hl [0, 1, 2, 4, 5] rfl) hf hok
      have J_217 : ∀ (v3_217 : Int32) (v4_217 : Int32) (v5_217 : Int32) (v7_217 : Int32) (v11_217 : Bool) (v12_217 : Bool) (t0_217 : Int32) (m_217 : MS) (H : Heap) (locs : List Loc), va_P (dC, dI) vwCl (mw q cI m_217) H → va_S (wA (mw q cI m)) s.heap H locs → ∀ ls : Array Slot, lv_has ls 13 [(0, .ref (q 0)), (3, .int v3_217), (4, .int v4_217), (5, .int v5_217), (7, .int v7_217), (11, .int (bz v11_217)), (12, .int (bz v12_217))] → F = pX12_notes_L217 (pX12_notes_L18 n_18) v3_217 v4_217 v5_217 v7_217 v11_217 v12_217 t0_217 m_217 → kX12_notes_L217 (kX12_notes_L18 n_18) v3_217 v4_217 v5_217 v7_217 v11_217 v12_217 t0_217 m_217 → W p l e rX12_notes s mi ([.ref (q 0), .int a1, .int a2, .int a3, .int a4] : List Value).toArray below meth c H locs 0 0 (MQ below (gQv (dC, dI) (fun m9 => mw q cI m9) (wA (mw q cI m)) (pX12_notes m a1 a2 a3 a4)) ([.ref (q 0), .int a1, .int a2, .int a3, .int a4] : List Value).toArray s 0 0 (wA (mw q cI m))) (F0 mi 217 ls [.int t0_217]) := by
        intro v3_217 v4_217 v5_217 v7_217 v11_217 v12_217 t0_217 m_217 H locs hP hS ls hl hf hok
        refine lv_istore (lv' := [(6, .int t0_217), (0, .ref (q 0)), (3, .int v3_217), (4, .int v4_217), (5, .int v5_217), (7, .int v7_217), (11, .int (bz v11_217)), (12, .int (bz v12_217))]) hx hb dX12_notes_217 hl (by decide) rfl (fun ls hl => ?_)
        refine lv_iload hx hb dX12_notes_219 (lv_at hl 6 rfl) ?_
        refine lv_if_eq (tgt := 234) hx hb dX12_notes_221 (by decide) (fun c46 => ?_) (fun c46 => ?_)
        · have c46 := bz_f c46
          have hf := ie_eq c46 hf
          have hok := ie_ok c46 hok
          exact J_234 v3_217 v4_217 v5_217 t0_217 v7_217 m_217 _ _ hP hS _ (lv_sub hl [1, 2, 3, 4, 0, 5] rfl) hf hok
        · have c46 := bz_t c46
          have hf := it_eq c46 hf
          have hok := it_ok c46 hok
          refine lv_iload hx hb dX12_notes_224 (lv_at hl 7 rfl) ?_
          refine lv_if_eq (tgt := 234) hx hb dX12_notes_226 (by decide) (fun c48 => ?_) (fun c48 => ?_)
          · have c48 := bz_f c48
            have hf := ie_eq c48 hf
            have hok := ie_ok c48 hok
            exact J_234 v3_217 v4_217 v5_217 t0_217 v7_217 m_217 _ _ hP hS _ (lv_sub hl [1, 2, 3, 4, 0, 5] rfl) hf hok
          · have c48 := bz_t c48
            have hf := it_eq c48 hf
            have hok := it_ok c48 hok
            refine lv_iload hx hb dX12_notes_229 (lv_at hl 5 rfl) ?_
            refine lv_goto (tgt := 236) hx hb dX12_notes_231 (by decide) ?_
            exact J_236 v3_217 v4_217 t0_217 v7_217 v7_217 m_217 _ _ hP hS _ (lv_sub hl [1, 2, 3, 0, 5] rfl) hf hok
      have J_215 : ∀ (v3_215 : Int32) (v4_215 : Int32) (v5_215 : Int32) (v6_215 : Int32) (v7_215 : Int32) (v11_215 : Bool) (v12_215 : Bool) (m_215 : MS) (H : Heap) (locs : List Loc), va_P (dC, dI) vwCl (mw q cI m_215) H → va_S (wA (mw q cI m)) s.heap H locs → ∀ ls : Array Slot, lv_has ls 13 [(0, .ref (q 0)), (3, .int v3_215), (4, .int v4_215), (5, .int v5_215), (6, .int v6_215), (7, .int v7_215), (11, .int (bz v11_215)), (12, .int (bz v12_215))] → F = pX12_notes_L215 (pX12_notes_L18 n_18) v3_215 v4_215 v5_215 v6_215 v7_215 v11_215 v12_215 m_215 → kX12_notes_L215 (kX12_notes_L18 n_18) v3_215 v4_215 v5_215 v6_215 v7_215 v11_215 v12_215 m_215 → W p l e rX12_notes s mi ([.ref (q 0), .int a1, .int a2, .int a3, .int a4] : List Value).toArray below meth c H locs 0 0 (MQ below (gQv (dC, dI) (fun m9 => mw q cI m9) (wA (mw q cI m)) (pX12_notes m a1 a2 a3 a4)) ([.ref (q 0), .int a1, .int a2, .int a3, .int a4] : List Value).toArray s 0 0 (wA (mw q cI m))) (F0 mi 215 ls []) := by
        intro v3_215 v4_215 v5_215 v6_215 v7_215 v11_215 v12_215 m_215 H locs hP hS ls hl hf hok
        refine lv_iload hx hb dX12_notes_215 (lv_at hl 4 rfl) ?_
        exact J_217 v3_215 v4_215 v5_215 v7_215 v11_215 v12_215 v6_215 m_215 _ _ hP hS _ (lv_sub hl [0, 1, 2, 3, 5, 6, 7] rfl) hf hok
      have J_198 : ∀ (v3_198 : Int32) (v4_198 : Int32) (v5_198 : Int32) (v6_198 : Int32) (v7_198 : Int32) (v10_198 : Int32) (v11_198 : Bool) (t0_198 : Bool) (m_198 : MS) (H : Heap) (locs : List Loc), va_P (dC, dI) vwCl (mw q cI m_198) H → va_S (wA (mw q cI m)) s.heap H locs → ∀ ls : Array Slot, lv_has ls 13 [(0, .ref (q 0)), (3, .int v3_198), (4, .int v4_198), (5, .int v5_198), (6, .int v6_198), (7, .int v7_198), (10, .int v10_198), (11, .int (bz v11_198))] → F = pX12_notes_L198 (pX12_notes_L18 n_18) v3_198 v4_198 v5_198 v6_198 v7_198 v10_198 v11_198 t0_198 m_198 → kX12_notes_L198 (kX12_notes_L18 n_18) v3_198 v4_198 v5_198 v6_198 v7_198 v10_198 v11_198 t0_198 m_198 → W p l e rX12_notes s mi ([.ref (q 0), .int a1, .int a2, .int a3, .int a4] : List Value).toArray below meth c H locs 0 0 (MQ below (gQv (dC, dI) (fun m9 => mw q cI m9) (wA (mw q cI m)) (pX12_notes m a1 a2 a3 a4)) ([.ref (q 0), .int a1, .int a2, .int a3, .int a4] : List Value).toArray s 0 0 (wA (mw q cI m))) (F0 mi 198 ls [.int (bz t0_198)]) := by
        intro v3_198 v4_198 v5_198 v6_198 v7_198 v10_198 v11_198 t0_198 m_198 H locs hP hS ls hl hf hok
        refine lv_istore (lv' := [(12, .int (bz t0_198)), (0, .ref (q 0)), (3, .int v3_198), (4, .int v4_198), (5, .int v5_198), (6, .int v6_198), (7, .int v7_198), (10, .int v10_198), (11, .int (bz v11_198))]) hx hb dX12_notes_198 hl (by decide) rfl (fun ls hl => ?_)
        refine lv_iload hx hb dX12_notes_200 (lv_at hl 8 rfl) ?_
        refine lv_if_eq (tgt := 215) hx hb dX12_notes_202 (by decide) (fun c45 => ?_) (fun c45 => ?_)
        · have c45 := bz_f c45
          have hf := ie_eq c45 hf
          have hok := ie_ok c45 hok
          exact J_215 v3_198 v4_198 v5_198 v6_198 v7_198 v11_198 t0_198 m_198 _ _ hP hS _ (lv_sub hl [1, 2, 3, 4, 5, 6, 8, 0] rfl) hf hok
        · have c45 := bz_t c45
          have hf := it_eq c45 hf
          have hok := it_ok c45 hok
          refine lv_iload hx hb dX12_notes_205 (lv_at hl 0 rfl) ?_
          refine lv_if_eq (tgt := 215) hx hb dX12_notes_207 (by decide) (fun c49 => ?_) (fun c49 => ?_)
          · have c49 := bz_f c49
            have hf := ie_eq c49 hf
            have hok := ie_ok c49 hok
            exact J_215 v3_198 v4_198 v5_198 v6_198 v7_198 v11_198 t0_198 m_198 _ _ hP hS _ (lv_sub hl [1, 2, 3, 4, 5, 6, 8, 0] rfl) hf hok
          · have c49 := bz_t c49
            have hf := it_eq c49 hf
            have hok := it_ok c49 hok
            refine lv_iload hx hb dX12_notes_210 (lv_at hl 7 rfl) ?_
            refine lv_goto (tgt := 217) hx hb dX12_notes_212 (by decide) ?_
            exact J_217 v3_198 v4_198 v5_198 v7_198 v11_198 t0_198 v10_198 m_198 _ _ hP hS _ (lv_sub hl [1, 2, 3, 4, 6, 8, 0] rfl) hf hok
      have J_193 : ∀ (v3_193 : Int32) (v4_193 : Int32) (v5_193 : Int32) (v6_193 : Int32) (v7_193 : Int32) (v10_193 : Int32) (v11_193 : Bool) (m_193 : MS) (H : Heap) (locs : List Loc), va_P (dC, dI) vwCl (mw q cI m_193) H → va_S (wA (mw q cI m)) s.heap H locs → ∀ ls : Array Slot, lv_has ls 13 [(0, .ref (q 0)), (3, .int v3_193), (4, .int v4_193), (5, .int v5_193), (6, .int v6_193), (7, .int v7_193), (10, .int v10_193), (11, .int (bz v11_193))] → F = pX12_notes_L193 (pX12_notes_L18 n_18) v3_193 v4_193 v5_193 v6_193 v7_193 v10_193 v11_193 m_193 → kX12_notes_L193 (kX12_notes_L18 n_18) v3_193 v4_193 v5_193 v6_193 v7_193 v10_193 v11_193 m_193 → W p l e rX12_notes s mi ([.ref (q 0), .int a1, .int a2, .int a3, .int a4] : List Value).toArray below meth c H locs 0 0 (MQ below (gQv (dC, dI) (fun m9 => mw q cI m9) (wA (mw q cI m)) (pX12_notes m a1 a2 a3 a4)) ([.ref (q 0), .int a1, .int a2, .int a3, .int a4] : List Value).toArray s 0 0 (wA (mw q cI m))) (F0 mi 193 ls []) := by
        intro v3_193 v4_193 v5_193 v6_193 v7_193 v10_193 v11_193 m_193 H locs hP hS ls hl hf hok
        refine lv_iconst (v := 1) hx hb dX12_notes_193 (by decide) ?_
        refine lv_goto (tgt := 198) hx hb dX12_notes_194 (by decide) ?_
        exact J_198 v3_193 v4_193 v5_193 v6_193 v7_193 v10_193 v11_193 true m_193 _ _ hP hS _ (lv_sub hl [0, 1, 2, 3, 4, 5, 6, 7] rfl) hf hok
      have J_197 : ∀ (v3_197 : Int32) (v4_197 : Int32) (v5_197 : Int32) (v6_197 : Int32) (v7_197 : Int32) (v10_197 : Int32) (v11_197 : Bool) (m_197 : MS) (H : Heap) (locs : List Loc), va_P (dC, dI) vwCl (mw q cI m_197) H → va_S (wA (mw q cI m)) s.heap H locs → ∀ ls : Array Slot, lv_has ls 13 [(0, .ref (q 0)), (3, .int v3_197), (4, .int v4_197), (5, .int v5_197), (6, .int v6_197), (7, .int v7_197), (10, .int v10_197), (11, .int (bz v11_197))] → F = pX12_notes_L197 (pX12_notes_L18 n_18) v3_197 v4_197 v5_197 v6_197 v7_197 v10_197 v11_197 m_197 → kX12_notes_L197 (kX12_notes_L18 n_18) v3_197 v4_197 v5_197 v6_197 v7_197 v10_197 v11_197 m_197 → W p l e rX12_notes s mi ([.ref (q 0), .int a1, .int a2, .int a3, .int a4] : List Value).toArray below meth c H locs 0 0 (MQ below (gQv (dC, dI) (fun m9 => mw q cI m9) (wA (mw q cI m)) (pX12_notes m a1 a2 a3 a4)) ([.ref (q 0), .int a1, .int a2, .int a3, .int a4] : List Value).toArray s 0 0 (wA (mw q cI m))) (F0 mi 197 ls []) := by
        intro v3_197 v4_197 v5_197 v6_197 v7_197 v10_197 v11_197 m_197 H locs hP hS ls hl hf hok
        refine lv_iconst (v := 0) hx hb dX12_notes_197 (by decide) ?_
        exact J_198 v3_197 v4_197 v5_197 v6_197 v7_197 v10_197 v11_197 false m_197 _ _ hP hS _ (lv_sub hl [0, 1, 2, 3, 4, 5, 6, 7] rfl) hf hok
      have J_147 : ∀ (v3_147 : Int32) (v4_147 : Int32) (v5_147 : Int32) (v6_147 : Int32) (v7_147 : Int32) (v10_147 : Int32) (t0_147 : Bool) (m_147 : MS) (H : Heap) (locs : List Loc), va_P (dC, dI) vwCl (mw q cI m_147) H → va_S (wA (mw q cI m)) s.heap H locs → ∀ ls : Array Slot, lv_has ls 13 [(0, .ref (q 0)), (3, .int v3_147), (4, .int v4_147), (5, .int v5_147), (6, .int v6_147), (7, .int v7_147), (10, .int v10_147)] → F = pX12_notes_L147 (pX12_notes_L18 n_18) v3_147 v4_147 v5_147 v6_147 v7_147 v10_147 t0_147 m_147 → kX12_notes_L147 (kX12_notes_L18 n_18) v3_147 v4_147 v5_147 v6_147 v7_147 v10_147 t0_147 m_147 → W p l e rX12_notes s mi ([.ref (q 0), .int a1, .int a2, .int a3, .int a4] : List Value).toArray below meth c H locs 0 0 (MQ below (gQv (dC, dI) (fun m9 => mw q cI m9) (wA (mw q cI m)) (pX12_notes m a1 a2 a3 a4)) ([.ref (q 0), .int a1, .int a2, .int a3, .int a4] : List Value).toArray s 0 0 (wA (mw q cI m))) (F0 mi 147 ls [.int (bz t0_147)]) := by
        intro v3_147 v4_147 v5_147 v6_147 v7_147 v10_147 t0_147 m_147 H locs hP hS ls hl hf hok
        refine lv_istore (lv' := [(11, .int (bz t0_147)), (0, .ref (q 0)), (3, .int v3_147), (4, .int v4_147), (5, .int v5_147), (6, .int v6_147), (7, .int v7_147), (10, .int v10_147)]) hx hb dX12_notes_147 hl (by decide) rfl (fun ls hl => ?_)
        refine lv_iload hx hb dX12_notes_149 (lv_at hl 4 rfl) ?_
        refine lv_ldc (v := (-1000000000)) hx hb hown cn71 dX12_notes_151 ?_
        refine lv_icmp_eq (tgt := 193) hx hb dX12_notes_153 (by decide) (fun c44 => ?_) (fun c44 => ?_)
        · have hf := it_eq c44 hf
          have hok := it_ok c44 hok
          exact J_193 v3_147 v4_147 v5_147 v6_147 v7_147 v10_147 t0_147 m_147 _ _ hP hS _ (lv_sub hl [1, 2, 3, 4, 5, 6, 7, 0] rfl) hf hok
        · have hf := ie_eq c44 hf
          have hok := ie_ok c44 hok
          refine lv_aload_n hx hb dX12_notes_156 rfl (lv_at hl 1 rfl) ?_
          refine va_get (D := (dC, dI)) (ci := 9) (v := .ref (q 1)) (C := RX12) (T := TX12) (N := 23) hx hb hts hin12 hown hK hP 0 rfl rfl 0 (by decide) fl7 (fun _ h9 => h9) rfl dX12_notes_157 ?_
          refine lv_bipush (v := 12) hx hb dX12_notes_160 (by decide) ?_
          refine g_ialdK (D := (dC, dI)) (tys := (tYS cI cB cO cL)) (k := 12) hx hb hK hP 1 0 rfl rfl (by decide) (by decide) (by decide) dX12_notes_162 ?_
          refine lv_if_ne (tgt := 176) hx hb dX12_notes_163 (by decide) (fun c50 => ?_) (fun c50 => ?_)
          · have hf := ie_eq c50 hf
            have hok := ie_ok c50 hok
            refine lv_aload_n hx hb dX12_notes_176 rfl (lv_at hl 1 rfl) ?_
            refine va_get (D := (dC, dI)) (ci := 9) (v := .ref (q 7)) (C := RX12) (T := TX12) (N := 23) hx hb hts hin12 hown hK hP 0 rfl rfl 10 (by decide) fl28 (fun _ h9 => h9) rfl dX12_notes_177 ?_
            refine lv_iload hx hb dX12_notes_180 (lv_at hl 6 rfl) ?_
            obtain ⟨h53, hok⟩ := hok
            refine va_iald (D := (dC, dI)) (tys := (tYS cI cB cO cL)) hx hb hK hP 7 0 rfl rfl h53 dX12_notes_182 ?_
            refine lv_aload_n hx hb dX12_notes_183 rfl (lv_at hl 1 rfl) ?_
            refine va_get (D := (dC, dI)) (ci := 9) (v := .ref (q 7)) (C := RX12) (T := TX12) (N := 23) hx hb hts hin12 hown hK hP 0 rfl rfl 10 (by decide) fl28 (fun _ h9 => h9) rfl dX12_notes_184 ?_
            refine lv_iload hx hb dX12_notes_187 (lv_at hl 4 rfl) ?_
            obtain ⟨h52, hok⟩ := hok
            refine va_iald (D := (dC, dI)) (tys := (tYS cI cB cO cL)) hx hb hK hP 7 0 rfl rfl h52 dX12_notes_189 ?_
            refine lv_icmp_le (tgt := 197) hx hb dX12_notes_190 (by decide) (fun c51 => ?_) (fun c51 => ?_)
            · have hf := it_eq c51 hf
              have hok := it_ok c51 hok
              exact J_197 v3_147 v4_147 v5_147 v6_147 v7_147 v10_147 t0_147 m_147 _ _ hP hS _ (lv_sub hl [1, 2, 3, 4, 5, 6, 7, 0] rfl) hf hok
            · have hf := ie_eq c51 hf
              have hok := ie_ok c51 hok
              exact J_193 v3_147 v4_147 v5_147 v6_147 v7_147 v10_147 t0_147 m_147 _ _ hP hS _ (lv_sub hl [1, 2, 3, 4, 5, 6, 7, 0] rfl) hf hok
          · have hf := it_eq c50 hf
            have hok := it_ok c50 hok
            refine lv_iload hx hb dX12_notes_166 (lv_at hl 7 rfl) ?_
            refine lv_iload hx hb dX12_notes_168 (lv_at hl 5 rfl) ?_
            refine lv_icmp_ge (tgt := 197) hx hb dX12_notes_170 (by decide) (fun c54 => ?_) (fun c54 => ?_)
            · have hf := it_eq c54 hf
              have hok := it_ok c54 hok
              exact J_197 v3_147 v4_147 v5_147 v6_147 v7_147 v10_147 t0_147 m_147 _ _ hP hS _ (lv_sub hl [1, 2, 3, 4, 5, 6, 7, 0] rfl) hf hok
            · have hf := ie_eq c54 hf
              have hok := ie_ok c54 hok
              refine lv_goto (tgt := 193) hx hb dX12_notes_173 (by decide) ?_
              exact J_193 v3_147 v4_147 v5_147 v6_147 v7_147 v10_147 t0_147 m_147 _ _ hP hS _ (lv_sub hl [1, 2, 3, 4, 5, 6, 7, 0] rfl) hf hok
      have J_146 : ∀ (v3_146 : Int32) (v4_146 : Int32) (v5_146 : Int32) (v6_146 : Int32) (v7_146 : Int32) (v10_146 : Int32) (m_146 : MS) (H : Heap) (locs : List Loc), va_P (dC, dI) vwCl (mw q cI m_146) H → va_S (wA (mw q cI m)) s.heap H locs → ∀ ls : Array Slot, lv_has ls 13 [(0, .ref (q 0)), (3, .int v3_146), (4, .int v4_146), (5, .int v5_146), (6, .int v6_146), (7, .int v7_146), (10, .int v10_146)] → F = pX12_notes_L146 (pX12_notes_L18 n_18) v3_146 v4_146 v5_146 v6_146 v7_146 v10_146 m_146 → kX12_notes_L146 (kX12_notes_L18 n_18) v3_146 v4_146 v5_146 v6_146 v7_146 v10_146 m_146 → W p l e rX12_notes s mi ([.ref (q 0), .int a1, .int a2, .int a3, .int a4] : List Value).toArray below meth c H locs 0 0 (MQ below (gQv (dC, dI) (fun m9 => mw q cI m9) (wA (mw q cI m)) (pX12_notes m a1 a2 a3 a4)) ([.ref (q 0), .int a1, .int a2, .int a3, .int a4] : List Value).toArray s 0 0 (wA (mw q cI m))) (F0 mi 146 ls []) := by
        intro v3_146 v4_146 v5_146 v6_146 v7_146 v10_146 m_146 H locs hP hS ls hl hf hok
        refine lv_iconst (v := 0) hx hb dX12_notes_146 (by decide) ?_
        exact J_147 v3_146 v4_146 v5_146 v6_146 v7_146 v10_146 false m_146 _ _ hP hS _ (lv_sub hl [0, 1, 2, 3, 4, 5, 6] rfl) hf hok
      have J_92 : ∀ (v3_92 : Int32) (v4_92 : Int32) (v5_92 : Int32) (v6_92 : Int32) (v7_92 : Int32) (v8_92 : Bool) (t0_92 : Int32) (m_92 : MS) (H : Heap) (locs : List Loc), va_P (dC, dI) vwCl (mw q cI m_92) H → va_S (wA (mw q cI m)) s.heap H locs → ∀ ls : Array Slot, lv_has ls 13 [(0, .ref (q 0)), (3, .int v3_92), (4, .int v4_92), (5, .int v5_92), (6, .int v6_92), (7, .int v7_92), (8, .int (bz v8_92))] → F = pX12_notes_L92 (pX12_notes_L18 n_18) v3_92 v4_92 v5_92 v6_92 v7_92 v8_92 t0_92 m_92 → kX12_notes_L92 (kX12_notes_L18 n_18) v3_92 v4_92 v5_92 v6_92 v7_92 v8_92 t0_92 m_92 → W p l e rX12_notes s mi ([.ref (q 0), .int a1, .int a2, .int a3, .int a4] : List Value).toArray below meth c H locs 0 0 (MQ below (gQv (dC, dI) (fun m9 => mw q cI m9) (wA (mw q cI m)) (pX12_notes m a1 a2 a3 a4)) ([.ref (q 0), .int a1, .int a2, .int a3, .int a4] : List Value).toArray s 0 0 (wA (mw q cI m))) (F0 mi 92 ls [.int t0_92]) := by
        intro v3_92 v4_92 v5_92 v6_92 v7_92 v8_92 t0_92 m_92 H locs hP hS ls hl hf hok
        refine lv_istore (lv' := [(9, .int t0_92), (0, .ref (q 0)), (3, .int v3_92), (4, .int v4_92), (5, .int v5_92), (6, .int v6_92), (7, .int v7_92), (8, .int (bz v8_92))]) hx hb dX12_notes_92 hl (by decide) rfl (fun ls hl => ?_)
        refine lv_iload_n hx hb dX12_notes_94 rfl (lv_at hl 2 rfl) ?_
        refine lv_aload_n hx hb dX12_notes_95 rfl (lv_at hl 1 rfl) ?_
        refine lv_aload_n hx hb dX12_notes_96 rfl (lv_at hl 1 rfl) ?_
        refine va_get (D := (dC, dI)) (ci := 9) (v := .ref (q 6)) (C := RX12) (T := TX12) (N := 23) hx hb hts hin12 hown hK hP 0 rfl rfl 9 (by decide) fl25 (fun _ h9 => h9) rfl dX12_notes_97 ?_
        refine lv_iload hx hb dX12_notes_100 (lv_at hl 6 rfl) ?_
        obtain ⟨h57, hok⟩ := hok
        refine va_iald (D := (dC, dI)) (tys := (tYS cI cB cO cL)) hx hb hK hP 6 0 rfl rfl h57 dX12_notes_102 ?_
        obtain ⟨h40, hok⟩ := hok
        refine gro_i (va_runV (As := [.int ((m_92.2.2 5) v7_92.toNatClampNeg)]) (rest := [.int v3_92]) ⟨hx, hb, hml, hown, hts⟩ (mX12_timeOf l dC dI cI cB cO cL q m_92 ((m_92.2.2 5) v7_92.toNatClampNeg)  h40) (cwV 1 hts gX12_notes_X12_timeOf rfl rfl rfl (by decide +kernel) ⟨Nat.le_of_ble_eq_true rfl, Nat.le_of_ble_eq_true rfl⟩) ⟨gP_blind, va_recv hK hP (ci := 9) (q0 := 0) rfl rfl, gP_ok hP hK⟩ rfl rfl hl.1 rfl (lv_room (Nat.le_of_ble_eq_true rfl)) dX12_notes_103 ⟨Nat.zero_le _, Nat.zero_le _⟩) ?_
        refine lv_iadd hx hb dX12_notes_106 ?_
        refine lv_aload_n hx hb dX12_notes_107 rfl (lv_at hl 1 rfl) ?_
        refine lv_iload hx hb dX12_notes_108 (lv_at hl 3 rfl) ?_
        refine lv_iconst (v := 2) hx hb dX12_notes_110 (by decide) ?_
        obtain ⟨h41, hok⟩ := hok
        refine gro_i (va_runV (As := [.int v4_92, .int 2]) (rest := [.int (v3_92 + (pX12_timeOf m_92 ((m_92.2.2 5) v7_92.toNatClampNeg)))]) ⟨hx, hb, hml, hown, hts⟩ (mX12_of l dC dI cI cB cO cL q m_92 v4_92 2  h41) (cwV 2 hts gX12_notes_X12_of rfl rfl rfl (by decide +kernel) ⟨Nat.le_of_ble_eq_true rfl, Nat.le_of_ble_eq_true rfl⟩) ⟨gP_blind, va_recv hK hP (ci := 9) (q0 := 0) rfl rfl, gP_ok hP hK⟩ rfl rfl hl.1 rfl (lv_room (Nat.le_of_ble_eq_true rfl)) dX12_notes_111 ⟨Nat.zero_le _, Nat.zero_le _⟩) ?_
        refine lv_iadd hx hb dX12_notes_114 ?_
        refine lv_iload hx hb dX12_notes_115 (lv_at hl 0 rfl) ?_
        refine lv_iadd hx hb dX12_notes_117 ?_
        refine lv_topi (fun x42 ex42 => ?_)
        have hf := lt_eq ex42 hf
        have hok := lt_ok ex42 hok
        refine lv_istore (lv' := [(10, .int x42), (9, .int t0_92), (0, .ref (q 0)), (3, .int v3_92), (4, .int v4_92), (5, .int v5_92), (6, .int v6_92), (7, .int v7_92), (8, .int (bz v8_92))]) hx hb dX12_notes_118 hl (by decide) rfl (fun ls hl => ?_)
        refine lv_iload hx hb dX12_notes_120 (lv_at hl 8 rfl) ?_
        refine lv_if_ne (tgt := 146) hx hb dX12_notes_122 (by decide) (fun c43 => ?_) (fun c43 => ?_)
        · have c43 := bz_t c43
          have hf := it_eq c43 hf
          have hok := it_ok c43 hok
          exact J_146 v3_92 v4_92 v5_92 v6_92 v7_92 x42 m_92 _ _ hP hS _ (lv_sub hl [2, 3, 4, 5, 6, 7, 0] rfl) hf hok
        · have c43 := bz_f c43
          have hf := ie_eq c43 hf
          have hok := ie_ok c43 hok
          refine lv_aload_n hx hb dX12_notes_125 rfl (lv_at hl 2 rfl) ?_
          refine va_get (D := (dC, dI)) (ci := 9) (v := .ref (q 7)) (C := RX12) (T := TX12) (N := 23) hx hb hts hin12 hown hK hP 0 rfl rfl 10 (by decide) fl28 (fun _ h9 => h9) rfl dX12_notes_126 ?_
          refine lv_iload hx hb dX12_notes_129 (lv_at hl 7 rfl) ?_
          obtain ⟨h56, hok⟩ := hok
          refine va_iald (D := (dC, dI)) (tys := (tYS cI cB cO cL)) hx hb hK hP 7 0 rfl rfl h56 dX12_notes_131 ?_
          refine lv_aload_n hx hb dX12_notes_132 rfl (lv_at hl 2 rfl) ?_
          refine va_get (D := (dC, dI)) (ci := 9) (v := .ref (q 1)) (C := RX12) (T := TX12) (N := 23) hx hb hts hin12 hown hK hP 0 rfl rfl 0 (by decide) fl7 (fun _ h9 => h9) rfl dX12_notes_133 ?_
          refine lv_bipush (v := 11) hx hb dX12_notes_136 (by decide) ?_
          refine g_ialdK (D := (dC, dI)) (tys := (tYS cI cB cO cL)) (k := 11) hx hb hK hP 1 0 rfl rfl (by decide) (by decide) (by decide) dX12_notes_138 ?_
          refine lv_icmp_lt (tgt := 146) hx hb dX12_notes_139 (by decide) (fun c55 => ?_) (fun c55 => ?_)
          · have hf := it_eq c55 hf
            have hok := it_ok c55 hok
            exact J_146 v3_92 v4_92 v5_92 v6_92 v7_92 x42 m_92 _ _ hP hS _ (lv_sub hl [2, 3, 4, 5, 6, 7, 0] rfl) hf hok
          · have hf := ie_eq c55 hf
            have hok := ie_ok c55 hok
            refine lv_iconst (v := 1) hx hb dX12_notes_142 (by decide) ?_
            refine lv_goto (tgt := 147) hx hb dX12_notes_143 (by decide) ?_
            exact J_147 v3_92 v4_92 v5_92 v6_92 v7_92 x42 true m_92 _ _ hP hS _ (lv_sub hl [2, 3, 4, 5, 6, 7, 0] rfl) hf hok
      have J_91 : ∀ (v3_91 : Int32) (v4_91 : Int32) (v5_91 : Int32) (v6_91 : Int32) (v7_91 : Int32) (v8_91 : Bool) (m_91 : MS) (H : Heap) (locs : List Loc), va_P (dC, dI) vwCl (mw q cI m_91) H → va_S (wA (mw q cI m)) s.heap H locs → ∀ ls : Array Slot, lv_has ls 13 [(0, .ref (q 0)), (3, .int v3_91), (4, .int v4_91), (5, .int v5_91), (6, .int v6_91), (7, .int v7_91), (8, .int (bz v8_91))] → F = pX12_notes_L91 (pX12_notes_L18 n_18) v3_91 v4_91 v5_91 v6_91 v7_91 v8_91 m_91 → kX12_notes_L91 (kX12_notes_L18 n_18) v3_91 v4_91 v5_91 v6_91 v7_91 v8_91 m_91 → W p l e rX12_notes s mi ([.ref (q 0), .int a1, .int a2, .int a3, .int a4] : List Value).toArray below meth c H locs 0 0 (MQ below (gQv (dC, dI) (fun m9 => mw q cI m9) (wA (mw q cI m)) (pX12_notes m a1 a2 a3 a4)) ([.ref (q 0), .int a1, .int a2, .int a3, .int a4] : List Value).toArray s 0 0 (wA (mw q cI m))) (F0 mi 91 ls []) := by
        intro v3_91 v4_91 v5_91 v6_91 v7_91 v8_91 m_91 H locs hP hS ls hl hf hok
        refine lv_iconst (v := 0) hx hb dX12_notes_91 (by decide) ?_
        exact J_92 v3_91 v4_91 v5_91 v6_91 v7_91 v8_91 0 m_91 _ _ hP hS _ (lv_sub hl [0, 1, 2, 3, 4, 5, 6] rfl) hf hok
      have J_48 : ∀ (v3_48 : Int32) (v4_48 : Int32) (v5_48 : Int32) (v6_48 : Int32) (v7_48 : Int32) (t0_48 : Bool) (m_48 : MS) (H : Heap) (locs : List Loc), va_P (dC, dI) vwCl (mw q cI m_48) H → va_S (wA (mw q cI m)) s.heap H locs → ∀ ls : Array Slot, lv_has ls 13 [(0, .ref (q 0)), (3, .int v3_48), (4, .int v4_48), (5, .int v5_48), (6, .int v6_48), (7, .int v7_48)] → F = pX12_notes_L48 (pX12_notes_L18 n_18) v3_48 v4_48 v5_48 v6_48 v7_48 t0_48 m_48 → kX12_notes_L48 (kX12_notes_L18 n_18) v3_48 v4_48 v5_48 v6_48 v7_48 t0_48 m_48 → W p l e rX12_notes s mi ([.ref (q 0), .int a1, .int a2, .int a3, .int a4] : List Value).toArray below meth c H locs 0 0 (MQ below (gQv (dC, dI) (fun m9 => mw q cI m9) (wA (mw q cI m)) (pX12_notes m a1 a2 a3 a4)) ([.ref (q 0), .int a1, .int a2, .int a3, .int a4] : List Value).toArray s 0 0 (wA (mw q cI m))) (F0 mi 48 ls [.int (bz t0_48)]) := by
        intro v3_48 v4_48 v5_48 v6_48 v7_48 t0_48 m_48 H locs hP hS ls hl hf hok
        refine lv_istore (lv' := [(8, .int (bz t0_48)), (0, .ref (q 0)), (3, .int v3_48), (4, .int v4_48), (5, .int v5_48), (6, .int v6_48), (7, .int v7_48)]) hx hb dX12_notes_48 hl (by decide) rfl (fun ls hl => ?_)
        refine lv_iload hx hb dX12_notes_50 (lv_at hl 0 rfl) ?_
        refine lv_if_ne (tgt := 91) hx hb dX12_notes_52 (by decide) (fun c39 => ?_) (fun c39 => ?_)
        · have c39 := bz_t c39
          have hf := it_eq c39 hf
          have hok := it_ok c39 hok
          exact J_91 v3_48 v4_48 v5_48 v6_48 v7_48 t0_48 m_48 _ _ hP hS _ (lv_sub hl [1, 2, 3, 4, 5, 6, 0] rfl) hf hok
        · have c39 := bz_f c39
          have hf := ie_eq c39 hf
          have hok := ie_ok c39 hok
          refine lv_aload_n hx hb dX12_notes_55 rfl (lv_at hl 1 rfl) ?_
          refine va_get (D := (dC, dI)) (ci := 9) (v := .ref (q 1)) (C := RX12) (T := TX12) (N := 23) hx hb hts hin12 hown hK hP 0 rfl rfl 0 (by decide) fl7 (fun _ h9 => h9) rfl dX12_notes_56 ?_
          refine lv_bipush (v := 10) hx hb dX12_notes_59 (by decide) ?_
          refine g_ialdK (D := (dC, dI)) (tys := (tYS cI cB cO cL)) (k := 10) hx hb hK hP 1 0 rfl rfl (by decide) (by decide) (by decide) dX12_notes_61 ?_
          refine lv_if_le (tgt := 91) hx hb dX12_notes_62 (by decide) (fun c58 => ?_) (fun c58 => ?_)
          · have hf := it_eq c58 hf
            have hok := it_ok c58 hok
            exact J_91 v3_48 v4_48 v5_48 v6_48 v7_48 t0_48 m_48 _ _ hP hS _ (lv_sub hl [1, 2, 3, 4, 5, 6, 0] rfl) hf hok
          · have hf := ie_eq c58 hf
            have hok := ie_ok c58 hok
            refine lv_aload_n hx hb dX12_notes_65 rfl (lv_at hl 1 rfl) ?_
            refine lv_iconst (v := 2) hx hb dX12_notes_66 (by decide) ?_
            refine lv_aload_n hx hb dX12_notes_67 rfl (lv_at hl 1 rfl) ?_
            refine va_get (D := (dC, dI)) (ci := 9) (v := .ref (q 1)) (C := RX12) (T := TX12) (N := 23) hx hb hts hin12 hown hK hP 0 rfl rfl 0 (by decide) fl7 (fun _ h9 => h9) rfl dX12_notes_68 ?_
            refine lv_bipush (v := 10) hx hb dX12_notes_71 (by decide) ?_
            refine g_ialdK (D := (dC, dI)) (tys := (tYS cI cB cO cL)) (k := 10) hx hb hK hP 1 0 rfl rfl (by decide) (by decide) (by decide) dX12_notes_73 ?_
            refine lv_imul hx hb dX12_notes_74 ?_
            refine lv_iconst (v := 1) hx hb dX12_notes_75 (by decide) ?_
            refine lv_iadd hx hb dX12_notes_76 ?_
            obtain ⟨h59, hok⟩ := hok
            refine gms_i (va_runV (As := [.int ((2 * ((m_48.2.2 0) 10)) + 1)]) (rest := []) ⟨hx, hb, hml, hown, hts⟩ (mX12_drawn l dC dI cI cB cO cL q m_48 ((2 * ((m_48.2.2 0) 10)) + 1) (gD_any hD) h59) (cwV 1 hts gX12_notes_X12_drawn rfl rfl rfl (by decide +kernel) ⟨Nat.le_of_ble_eq_true rfl, Nat.le_of_ble_eq_true rfl⟩) ⟨gP_blind, va_recv hK hP (ci := 9) (q0 := 0) rfl rfl, gP_ok hP hK⟩ rfl rfl hl.1 rfl (lv_room (Nat.le_of_ble_eq_true rfl)) dX12_notes_77 ⟨Nat.zero_le _, Nat.zero_le _⟩) hP (gD_va hD rfl) hS (fun r60 u61 H locs hw hP hS => ?_)
            have hP : va_P (dC, dI) vwCl (mw q cI u61) H := hP
            have hf := bd_eq hw hf
            have hok := bd_ok hw hok
            refine lv_aload_n hx hb dX12_notes_80 rfl (lv_at hl 1 rfl) ?_
            refine va_get (D := (dC, dI)) (ci := 9) (v := .ref (q 1)) (C := RX12) (T := TX12) (N := 23) hx hb hts hin12 hown hK hP 0 rfl rfl 0 (by decide) fl7 (fun _ h9 => h9) rfl dX12_notes_81 ?_
            refine lv_bipush (v := 10) hx hb dX12_notes_84 (by decide) ?_
            refine g_ialdK (D := (dC, dI)) (tys := (tYS cI cB cO cL)) (k := 10) hx hb hK hP 1 0 rfl rfl (by decide) (by decide) (by decide) dX12_notes_86 ?_
            refine lv_isub hx hb dX12_notes_87 ?_
            refine lv_goto (tgt := 92) hx hb dX12_notes_88 (by decide) ?_
            exact J_92 v3_48 v4_48 v5_48 v6_48 v7_48 t0_48 (r60 - ((u61.2.2 0) 10)) u61 _ _ hP hS _ (lv_sub hl [1, 2, 3, 4, 5, 6, 0] rfl) hf hok
      intro v3_18 v4_18 v5_18 v6_18 v7_18 m_18 H locs hP hS ls hl hf hok
      have hf : F = bX12_notes_L18 (pX12_notes_L18 n_18) v3_18 v4_18 v5_18 v6_18 v7_18 m_18 := hf
      have hok : kbX12_notes_L18 (kX12_notes_L18 n_18) v3_18 v4_18 v5_18 v6_18 v7_18 m_18 := hok
      refine lv_iload hx hb dX12_notes_18 (lv_at hl 5 rfl) ?_
      refine lv_aload_n hx hb dX12_notes_20 rfl (lv_at hl 0 rfl) ?_
      refine va_get (D := (dC, dI)) (ci := 9) (v := .int (m_18.1 4)) (C := RX12) (T := TX12) (N := 23) hx hb hts hin12 hown hK hP 0 rfl rfl 13 (by decide) fl72 (fun _ h9 => h9) rfl dX12_notes_21 ?_
      refine lv_icmp_ge (tgt := 244) hx hb dX12_notes_24 (by decide) (fun c4 => ?_) (fun c4 => ?_)
      · have hf := it_eq c4 hf
        have hok := it_ok c4 hok
        refine lv_iload hx hb dX12_notes_244 (lv_at hl 3 rfl) ?_
        refine lv_ldc (v := (-1000000000)) hx hb hown cn71 dX12_notes_246 ?_
        refine lv_icmp_eq (tgt := 255) hx hb dX12_notes_248 (by decide) (fun c5 => ?_) (fun c5 => ?_)
        · have hf := it_eq c5 hf
          have hok := it_ok c5 hok
          refine lv_iconst (v := 0) hx hb dX12_notes_255 (by decide) ?_
          exact J_256 v4_18 v5_18 v6_18 false m_18 _ _ hP hS _ (lv_sub hl [0, 2, 3, 4] rfl) hf hok
        · have hf := ie_eq c5 hf
          have hok := ie_ok c5 hok
          refine lv_iconst (v := 1) hx hb dX12_notes_251 (by decide) ?_
          refine lv_goto (tgt := 256) hx hb dX12_notes_252 (by decide) ?_
          exact J_256 v4_18 v5_18 v6_18 true m_18 _ _ hP hS _ (lv_sub hl [0, 2, 3, 4] rfl) hf hok
      · have hf := ie_eq c4 hf
        have hok := ie_ok c4 hok
        refine lv_aload_n hx hb dX12_notes_27 rfl (lv_at hl 0 rfl) ?_
        refine lv_bipush (v := 100) hx hb dX12_notes_28 (by decide) ?_
        obtain ⟨h35, hok⟩ := hok
        refine gms_i (va_runV (As := [.int 100]) (rest := []) ⟨hx, hb, hml, hown, hts⟩ (mX12_drawn l dC dI cI cB cO cL q m_18 100 (gD_any hD) h35) (cwV 1 hts gX12_notes_X12_drawn rfl rfl rfl (by decide +kernel) ⟨Nat.le_of_ble_eq_true rfl, Nat.le_of_ble_eq_true rfl⟩) ⟨gP_blind, va_recv hK hP (ci := 9) (q0 := 0) rfl rfl, gP_ok hP hK⟩ rfl rfl hl.1 rfl (lv_room (Nat.le_of_ble_eq_true rfl)) dX12_notes_30 ⟨Nat.zero_le _, Nat.zero_le _⟩) hP (gD_va hD rfl) hS (fun r36 u37 H locs hw hP hS => ?_)
        have hP : va_P (dC, dI) vwCl (mw q cI u37) H := hP
        have hf := bd_eq hw hf
        have hok := bd_ok hw hok
        refine lv_aload_n hx hb dX12_notes_33 rfl (lv_at hl 0 rfl) ?_
        refine va_get (D := (dC, dI)) (ci := 9) (v := .ref (q 1)) (C := RX12) (T := TX12) (N := 23) hx hb hts hin12 hown hK hP 0 rfl rfl 0 (by decide) fl7 (fun _ h9 => h9) rfl dX12_notes_34 ?_
        refine lv_bipush (v := 9) hx hb dX12_notes_37 (by decide) ?_
        refine g_ialdK (D := (dC, dI)) (tys := (tYS cI cB cO cL)) (k := 9) hx hb hK hP 1 0 rfl rfl (by decide) (by decide) (by decide) dX12_notes_39 ?_
        refine lv_icmp_ge (tgt := 47) hx hb dX12_notes_40 (by decide) (fun c38 => ?_) (fun c38 => ?_)
        · have hf := it_eq c38 hf
          have hok := it_ok c38 hok
          refine lv_iconst (v := 0) hx hb dX12_notes_47 (by decide) ?_
          exact J_48 v3_18 v4_18 v5_18 v6_18 v7_18 false u37 _ _ hP hS _ (lv_sub hl [0, 1, 2, 3, 4, 5] rfl) hf hok
        · have hf := ie_eq c38 hf
          have hok := ie_ok c38 hok
          refine lv_iconst (v := 1) hx hb dX12_notes_43 (by decide) ?_
          refine lv_goto (tgt := 48) hx hb dX12_notes_44 (by decide) ?_
          exact J_48 v3_18 v4_18 v5_18 v6_18 v7_18 true u37 _ _ hP hS _ (lv_sub hl [0, 1, 2, 3, 4, 5] rfl) hf hok
  refine lv_aload_n hx hb dX12_notes_0 rfl (lv_at hl 0 rfl) ?_
  refine lv_iload_n hx hb dX12_notes_1 rfl (lv_at hl 1 rfl) ?_
  refine lv_iload_n hx hb dX12_notes_2 rfl (lv_at hl 2 rfl) ?_
  refine lv_iload hx hb dX12_notes_3 (lv_at hl 4 rfl) ?_
  obtain ⟨h1, hok⟩ := hok
  refine gms_v (va_runV (As := [.int a1, .int a2, .int a4]) (rest := []) ⟨hx, hb, hml, hown, hts⟩ (mX12_lists l dC dI cI cB cO cL q m a1 a2 a4 (gD_any hD) h1) (cwV 3 hts gX12_notes_X12_lists rfl rfl rfl (by decide +kernel) ⟨Nat.le_of_ble_eq_true rfl, Nat.le_of_ble_eq_true rfl⟩) ⟨gP_blind, va_recv hK hP (ci := 9) (q0 := 0) rfl rfl, gP_ok hP hK⟩ rfl rfl hl.1 rfl (lv_room (Nat.le_of_ble_eq_true rfl)) dX12_notes_5 ⟨Nat.zero_le _, Nat.zero_le _⟩) hP (gD_va hD rfl) hS (fun u3 H locs hw hP hS => ?_)
  have hP : va_P (dC, dI) vwCl (mw q cI u3) H := hP
  have hf := lt_eq hw hf
  have hok := lt_ok hw hok
  refine lv_ldc (v := (-1000000000)) hx hb hown cn71 dX12_notes_8 ?_
  refine lv_istore (lv' := [(5, .int (-1000000000)), (0, .ref (q 0)), (1, .int a1), (2, .int a2), (3, .int a3), (4, .int a4)]) hx hb dX12_notes_10 hl (by decide) rfl (fun ls hl => ?_)
  refine lv_iconst (v := 0) hx hb dX12_notes_12 (by decide) ?_
  refine lv_istore (lv' := [(6, .int 0), (5, .int (-1000000000)), (0, .ref (q 0)), (1, .int a1), (2, .int a2), (3, .int a3), (4, .int a4)]) hx hb dX12_notes_13 hl (by decide) rfl (fun ls hl => ?_)
  refine lv_iconst (v := 0) hx hb dX12_notes_15 (by decide) ?_
  refine lv_istore (lv' := [(7, .int 0), (6, .int 0), (5, .int (-1000000000)), (0, .ref (q 0)), (1, .int a1), (2, .int a2), (3, .int a3), (4, .int a4)]) hx hb dX12_notes_16 hl (by decide) rfl (fun ls hl => ?_)
  exact J_18 fu a3 a4 (-1000000000) 0 0 u3 _ _ hP hS _ (lv_sub hl [3, 6, 7, 2, 1, 0] rfl) hf hok
noncomputable def bX12_noted_L4 (m : MS)  (q_4 : Int32 → Int32 → Int32) (v1_4 : Int32) (v2_4 : Int32) : Int32 := if ((m.2.2 0) 2) ≤ v2_4 then (v1_4) else (lt (v1_4 + (pX12_of m v2_4 4)) fun (x3 : Int32) => lt (v2_4 + 1) fun (x4 : Int32) => q_4 x3 x4)
noncomputable def pX12_noted_L4 (m : MS)  : Nat → Int32 → Int32 → Int32
  | 0 => fun _ _ => (0)
  | n + 1 => bX12_noted_L4 m  (pX12_noted_L4 m  n)
def kbX12_noted_L4 (m : MS)  (Q_4 : Int32 → Int32 → Prop) (v1_4 : Int32) (v2_4 : Int32) : Prop := if ((m.2.2 0) 2) ≤ v2_4 then (True) else ((kX12_of m v2_4 4) ∧ (lt (v1_4 + (pX12_of m v2_4 4)) fun (x3 : Int32) => lt (v2_4 + 1) fun (x4 : Int32) => Q_4 x3 x4))
noncomputable def kX12_noted_L4 (m : MS)  : Nat → Int32 → Int32 → Prop
  | 0 => fun _ _ => False
  | n + 1 => kbX12_noted_L4 m  (kX12_noted_L4 m  n)
noncomputable def pX12_noted (m : MS) : Int32 := pX12_noted_L4 m fu 0 0
def kX12_noted (m : MS) : Prop := kX12_noted_L4 m fu 0 0
abbrev rX12_noted : Room := { frames := 1, cells := 0, slots := 0, locals := 22 }
set_option maxHeartbeats 4000000 in
set_option maxRecDepth 100000 in
theorem mX12_noted (l : Launch) (dC : Nat → ClassId) (dI : Nat → Nat → Nat) (cI cB cO cL : ClassId) (q : Nat → Nat) (m : MS) (hok : kX12_noted m) : Met l yX12_noted wsX12_noted rX12_noted (gP (dC, dI) (tYS cI cB cO cL) (mw q cI m) [.ref (q 0)]) (gRi (pX12_noted m)) 0 0 (fun _ => False) := by
  refine gMet (cc := cX12_noted) (maxL := 3) (ret := some .int) [(0, .ref (q 0))] (by decide) rfl rfl rfl ?_
  intro p e s mi below meth c C0 hK hP ls hl
  obtain ⟨hx, hb, hr, hml, hown, hts, hlocks⟩ := id C0
  have hown : s.vm.findClass RX12 = some mi.cls := hown
  obtain ⟨F, hF⟩ : ∃ F, F = pX12_noted m := ⟨_, rfl⟩
  have hf := hF
  have hin12 : ∀ w ∈ u_ws RX12 TX12 23, w ∈ wsX12_noted := by decide +kernel
  have fl7 := hts (.fieldLink RX12 7 "ClickBenchModel" "s" "[I") (by decide +kernel)
  have J_4 : ∀ (n_4 : Nat) (v1_4 : Int32) (v2_4 : Int32), ∀ ls : Array Slot, lv_has ls 3 [(0, .ref (q 0)), (1, .int v1_4), (2, .int v2_4)] → F = pX12_noted_L4 m n_4 v1_4 v2_4 → kX12_noted_L4 m n_4 v1_4 v2_4 → W p l e rX12_noted s mi ([.ref (q 0)] : List Value).toArray below meth c s.heap [] 0 0 (MQ below (gRi (pX12_noted m)) ([.ref (q 0)] : List Value).toArray s 0 0 (fun _ => False)) (F0 mi 4 ls []) := by
    intro n_4
    induction n_4 with
    | zero =>
      intro v1_4 v2_4 ls hl hf hok
      exact absurd hok (fun h => h)
    | succ n_4 ih_4 =>
      intro v1_4 v2_4 ls hl hf hok
      have hf : F = bX12_noted_L4 m (pX12_noted_L4 m n_4) v1_4 v2_4 := hf
      have hok : kbX12_noted_L4 m (kX12_noted_L4 m n_4) v1_4 v2_4 := hok
      refine lv_iload_n hx hb dX12_noted_4 rfl (lv_at hl 2 rfl) ?_
      refine lv_aload_n hx hb dX12_noted_5 rfl (lv_at hl 0 rfl) ?_
      refine va_get (D := (dC, dI)) (ci := 9) (v := .ref (q 1)) (C := RX12) (T := TX12) (N := 23) hx hb hts hin12 hown hK hP 0 rfl rfl 0 (by decide) fl7 (fun _ h9 => h9) rfl dX12_noted_6 ?_
      refine lv_iconst (v := 2) hx hb dX12_noted_9 (by decide) ?_
      refine g_ialdK (D := (dC, dI)) (tys := (tYS cI cB cO cL)) (k := 2) hx hb hK hP 1 0 rfl rfl (by decide) (by decide) (by decide) dX12_noted_10 ?_
      refine lv_icmp_ge (tgt := 29) hx hb dX12_noted_11 (by decide) (fun c1 => ?_) (fun c1 => ?_)
      · have hf := it_eq c1 hf
        refine lv_iload_n hx hb dX12_noted_29 rfl (lv_at hl 1 rfl) ?_
        exact e_ri C0 (hf.symm.trans hF) dX12_noted_30
      · have hf := ie_eq c1 hf
        have hok := ie_ok c1 hok
        refine lv_iload_n hx hb dX12_noted_14 rfl (lv_at hl 1 rfl) ?_
        refine lv_aload_n hx hb dX12_noted_15 rfl (lv_at hl 0 rfl) ?_
        refine lv_iload_n hx hb dX12_noted_16 rfl (lv_at hl 2 rfl) ?_
        refine lv_iconst (v := 4) hx hb dX12_noted_17 (by decide) ?_
        obtain ⟨h2, hok⟩ := hok
        refine gro_i (va_runV (As := [.int v2_4, .int 4]) (rest := [.int v1_4]) ⟨hx, hb, hml, hown, hts⟩ (mX12_of l dC dI cI cB cO cL q m v2_4 4  h2) (cwV 2 hts gX12_noted_X12_of rfl rfl rfl (by decide +kernel) ⟨Nat.le_of_ble_eq_true rfl, Nat.le_of_ble_eq_true rfl⟩) ⟨gP_blind, va_recv hK hP (ci := 9) (q0 := 0) rfl rfl, gP_ok hP hK⟩ rfl rfl hl.1 rfl (lv_room (Nat.le_of_ble_eq_true rfl)) dX12_noted_18 ⟨Nat.zero_le _, Nat.zero_le _⟩) ?_
        refine lv_iadd hx hb dX12_noted_21 ?_
        refine lv_topi (fun x3 ex3 => ?_)
        have hf := lt_eq ex3 hf
        have hok := lt_ok ex3 hok
        refine lv_istore_n (lv' := [(1, .int x3), (0, .ref (q 0)), (2, .int v2_4)]) hx hb dX12_noted_22 rfl hl (by decide) rfl (fun ls hl => ?_)
        obtain ⟨x4, ex4⟩ : ∃ y : Int32, y = v2_4 + 1 := ⟨_, rfl⟩
        refine lv_iinc (v := x4) (lv' := [(2, .int x4), (1, .int x3), (0, .ref (q 0))]) hx hb dX12_noted_23 hl (k := 2) rfl (by rw [ex4]; rfl) (by decide) rfl (fun ls hl => ?_)
        have hf := lt_eq ex4 hf
        have hok := lt_ok ex4 hok
        refine lv_goto (tgt := 4) hx hb dX12_noted_26 (by decide) ?_
        exact ih_4 x3 x4 _ (lv_sub hl [2, 1, 0] rfl) hf hok
  refine lv_iconst (v := 0) hx hb dX12_noted_0 (by decide) ?_
  refine lv_istore_n (lv' := [(1, .int 0), (0, .ref (q 0))]) hx hb dX12_noted_1 rfl hl (by decide) rfl (fun ls hl => ?_)
  refine lv_iconst (v := 0) hx hb dX12_noted_2 (by decide) ?_
  refine lv_istore_n (lv' := [(2, .int 0), (1, .int 0), (0, .ref (q 0))]) hx hb dX12_noted_3 rfl hl (by decide) rfl (fun ls hl => ?_)
  exact J_4 fu 0 0 _ (lv_sub hl [2, 1, 0] rfl) hf hok
