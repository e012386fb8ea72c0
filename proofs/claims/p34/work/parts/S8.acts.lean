/-! THE LAW: it acts -/
section SACTS
abbrev rL_acts : Room := { frames := 11, cells := 5, slots := 84, locals := 245 }
set_option maxHeartbeats 8000000 in
set_option maxRecDepth 100000 in
theorem mL_acts (l : Launch) (hfl : l.stackTraces = false) (dC : Nat → ClassId) (dI : Nat → Nat → Nat) (cI cB cO cL : ClassId) (N0 : Nat) (sT eA qb qs qu qr qe qk qx qd qg qm qw : Nat → Nat) (b : BS) (s9 : SS) (u : US) (tr te : TS) (g m9 w : Nat → Int32) (kk : Int32) (z : Int32) (sz : Nat) (hsz : N0 ≤ sz) (hG0 : gC (fun q => N0 ≤ q) (cpT qb qs qu qr qe qk [qg 0, qm 0, qw 0])) (hR0 : RelT (b, s9, u, tr, te) g m9 w) : Met l yL_acts wsT_acts rL_acts (tP N0 sz sT eA (dC, dI) (tYS cI cB cO cL) (LT (dC, dI) cI cB qb qs qu qr qe qk qx qd qg qm qw kk ((b, s9, u, tr, te), g, m9, w)) [.ref (qk 0), .ref (qg 0), .ref (qm 0), .ref (qw 0), .int z]) (upQ (dC, dI) cI cB qb qs qu qr qe qk qx qd qg qm qw kk (uA (cpT qb qs qu qr qe qk [qg 0, qm 0, qw 0]) sz)) 5 84 (uA (cpT qb qs qu qr qe qk [qg 0, qm 0, qw 0]) sz) := by
  refine tMet (cc := cL_acts) (maxL := 20) (ws' := gT) (v0 := ((b, s9, u, tr, te), g, m9, w)) (av := [.ref (qk 0), .ref (qg 0), .ref (qm 0), .ref (qw 0), .int z]) [(0, .ref (qk 0)), (1, .ref (qg 0)), (2, .ref (qm 0)), (3, .ref (qw 0)), (4, .int z)] hsz hG0 (by decide) wsT_acts_eq rfl rfl ?_
  intro p e s m below meth c A QQ hx hb hml hown hts hK hF hC hN0 hA hN hG hI hW hend ls hl
  have hown : s.vm.findClass RL = some m.cls := hown
  obtain ⟨Cn, Rn, Mn, Wn, Nn, hD, hV, hU⟩ := hR0
  obtain ⟨hlC, hlR, hlM, hlW, hlN⟩ := hD.1.le
  have hI : OI (dC, dI) cI cB qb qs qu qr qe qk qx qd kk (b, s9, u, tr, te) s.heap := hI
  have hW : va_P (dC, dI) vwCl (arW qg qm qw cI g m9 w) s.heap := hW
  have hS : va_S A s.heap s.heap [] := va_S.rf
  refine lv_iload hx hb dL_acts_0 (lv_at hl 4 rfl) ?_
  refine lv_iconst (v := 5) hx hb dL_acts_2 (by decide) ?_
  refine lv_ishr hx hb dL_acts_3 ?_
  refine lv_topi (fun z5 e_z5 => ?_)
  refine lv_ldc (v := (10000000)) hx hb hown (hts (.constant RL 39 (10000000)) (gTt tw293)) dL_acts_4 ?_
  refine gro_i (va_runS (As := [.int z5, .int 10000000]) (rest := []) ⟨hx, hb, hml, hown, hts⟩ (mL_low l dC dI cI cB cO cL z5 10000000 (show ¬ (10000000 : Int32) = 0 by decide)) (va_cwS 2 hts (gT_in gQ_L_low_40) rfl rfl rfl (by decide +kernel) ⟨Nat.le_of_ble_eq_true rfl, Nat.le_of_ble_eq_true rfl⟩) ⟨gP_blind, gP_ok va_P_nil hK⟩ rfl rfl hl.1 rfl (lv_room (Nat.le_of_ble_eq_true rfl)) dL_acts_6 ⟨(by omega : 0 + 0 ≤ 5), (by omega : 0 + 0 ≤ 84)⟩) ?_
  obtain ⟨vn, hvn, evn⟩ := low_lt z5 (n := 10000000) (by decide) (by decide)
  refine tp_i (show (pL_low z5 10000000) = nI vn from evn) ?_
  refine lv_istore (lv' := [(5, .int (nI vn)), (0, .ref (qk 0)), (1, .ref (qg 0)), (2, .ref (qm 0)), (3, .ref (qw 0)), (4, .int z)]) hx hb dL_acts_9 hl (by decide) rfl (fun ls hl => ?_)
  refine lv_iload hx hb dL_acts_11 (lv_at hl 5 rfl) ?_
  refine lv_bipush (v := 20) hx hb dL_acts_13 (by decide) ?_
  refine gro_i (va_runS (As := [.int z, .int 20]) (rest := []) ⟨hx, hb, hml, hown, hts⟩ (mL_low l dC dI cI cB cO cL z 20 (show ¬ (20 : Int32) = 0 by decide)) (va_cwS 2 hts (gT_in gQ_L_low_40) rfl rfl rfl (by decide +kernel) ⟨Nat.le_of_ble_eq_true rfl, Nat.le_of_ble_eq_true rfl⟩) ⟨gP_blind, gP_ok va_P_nil hK⟩ rfl rfl hl.1 rfl (lv_room (Nat.le_of_ble_eq_true rfl)) dL_acts_15 ⟨(by omega : 0 + 0 ≤ 5), (by omega : 0 + 0 ≤ 84)⟩) ?_
  obtain ⟨j9, hj9, ej9⟩ := low_lt z (n := 20) (by decide) (by decide)
  refine tp_i (show (pL_low z 20) = nI j9 from ej9) ?_
  have K84 : ∀ ls : Array Slot, lv_has ls 20 [(5, .int (nI vn)), (0, .ref (qk 0)), (1, .ref (qg 0)), (2, .ref (qm 0)), (3, .ref (qw 0)), (4, .int z)] → W p l e rL_acts s m ([.ref (qk 0), .ref (qg 0), .ref (qm 0), .ref (qw 0), .int z] : List Value).toArray below meth c s.heap [] (0) (0) QQ (F0 m 84 ls []) := by
    intro ls hl
    refine lv_iload hx hb dL_acts_84 (lv_at hl 0 rfl) ?_
    refine lv_iconst (v := 4) hx hb dL_acts_86 (by decide) ?_
    refine lv_irem hx hb dL_acts_87 (by decide) ?_
    refine tp_i (show ((nI vn) - (nI vn) / (4 : Int32) * (4 : Int32)) = nI (vn % 4) from nx_rem (a := vn) (d := 4) (by omega) (by omega) (by omega)) ?_
    by_cases h9 : vn % 4 = 0
    · refine lv_if_le (tgt := 108) hx hb dL_acts_88 (by decide) (fun _ => ?_) (fun h => absurd (show nI (vn % 4) ≤ 0 by rw [h9]; decide) h)
      refine lv_aload_n hx hb dL_acts_108 rfl (lv_at hl 2 rfl) ?_
      refine lv_iconst (v := 5) hx hb dL_acts_109 (by decide) ?_
      refine g_ialdK (D := (dC, dI)) (tys := tYS cI cB cO cL) (k := 5) hx hb hK hW 0 0 rfl rfl (by decide) (by decide) (by decide) dL_acts_110 ?_
      refine lv_istore (lv' := [(6, .int (g 5)), (5, .int (nI vn)), (0, .ref (qk 0)), (1, .ref (qg 0)), (2, .ref (qm 0)), (3, .ref (qw 0)), (4, .int z)]) hx hb dL_acts_111 hl (by decide) rfl (fun ls hl => ?_)
      refine lv_aload_n hx hb dL_acts_113 rfl (lv_at hl 3 rfl) ?_
      refine lv_iconst (v := 0) hx hb dL_acts_114 (by decide) ?_
      refine lv_iconst (v := 2) hx hb dL_acts_115 (by decide) ?_
      refine lv_iload hx hb dL_acts_116 (lv_at hl 1 rfl) ?_
      refine lv_iconst (v := 4) hx hb dL_acts_118 (by decide) ?_
      refine lv_idiv hx hb dL_acts_119 (by decide) ?_
      refine tp_i (show ((nI vn) / (4 : Int32)) = nI (vn / 4) from nx_div (a := vn) (d := 4) (by omega) (by omega) (by omega)) ?_
      refine lv_iconst (v := 5) hx hb dL_acts_120 (by decide) ?_
      refine lv_irem hx hb dL_acts_121 (by decide) ?_
      refine tp_i (show ((nI (vn / 4)) - (nI (vn / 4)) / (5 : Int32) * (5 : Int32)) = nI ((vn / 4) % 5) from nx_rem (a := vn / 4) (d := 5) (by omega) (by omega) (by omega)) ?_
      refine lv_iadd hx hb dL_acts_122 ?_
      refine tp_i (show ((2 : Int32) + (nI ((vn / 4) % 5))) = nI (2 + (vn / 4) % 5) from nI_add 2 ((vn / 4) % 5)) ?_
      refine o_iast (D := (dC, dI)) (tys := tYS cI cB cO cL) (k := 0) hx hb hK hG hI hW hS rfl 0 0 rfl rfl (by decide) (by decide) (by decide) dL_acts_123 (fun H locs hI hW hS => ?_)
      obtain ⟨ga, e_ga⟩ : ∃ z9 : Nat → Int32, z9 = upd g 0 (nI (2 + (vn / 4) % 5)) := ⟨_, rfl⟩
      have hW : va_P (dC, dI) vwCl (arW qg qm qw cI ga m9 w) H := by rw [e_ga]; exact hW
      refine lv_aload_n hx hb dL_acts_124 rfl (lv_at hl 3 rfl) ?_
      refine lv_iconst (v := 1) hx hb dL_acts_125 (by decide) ?_
      refine lv_iconst (v := 2) hx hb dL_acts_126 (by decide) ?_
      refine lv_iload hx hb dL_acts_127 (lv_at hl 1 rfl) ?_
      refine lv_bipush (v := 20) hx hb dL_acts_129 (by decide) ?_
      refine lv_idiv hx hb dL_acts_131 (by decide) ?_
      refine tp_i (show ((nI vn) / (20 : Int32)) = nI (vn / 20) from nx_div (a := vn) (d := 20) (by omega) (by omega) (by omega)) ?_
      refine lv_iconst (v := 5) hx hb dL_acts_132 (by decide) ?_
      refine lv_irem hx hb dL_acts_133 (by decide) ?_
      refine tp_i (show ((nI (vn / 20)) - (nI (vn / 20)) / (5 : Int32) * (5 : Int32)) = nI ((vn / 20) % 5) from nx_rem (a := vn / 20) (d := 5) (by omega) (by omega) (by omega)) ?_
      refine lv_iadd hx hb dL_acts_134 ?_
      refine tp_i (show ((2 : Int32) + (nI ((vn / 20) % 5))) = nI (2 + (vn / 20) % 5) from nI_add 2 ((vn / 20) % 5)) ?_
      refine o_iast (D := (dC, dI)) (tys := tYS cI cB cO cL) (k := 1) hx hb hK hG hI hW hS rfl 0 0 rfl rfl (by decide) (by decide) (by decide) dL_acts_135 (fun H locs hI hW hS => ?_)
      obtain ⟨gb, e_gb⟩ : ∃ z9 : Nat → Int32, z9 = upd ga 1 (nI (2 + (vn / 20) % 5)) := ⟨_, rfl⟩
      have hW : va_P (dC, dI) vwCl (arW qg qm qw cI gb m9 w) H := by rw [e_gb]; exact hW
      refine lv_iconst (v := 2) hx hb dL_acts_136 (by decide) ?_
      refine lv_istore (lv' := [(7, .int 2), (6, .int (g 5)), (5, .int (nI vn)), (0, .ref (qk 0)), (1, .ref (qg 0)), (2, .ref (qm 0)), (3, .ref (qw 0)), (4, .int z)]) hx hb dL_acts_137 hl (by decide) rfl (fun ls hl => ?_)
      refine lv_iload hx hb dL_acts_139 (lv_at hl 0 rfl) ?_
      refine lv_bipush (v := 6) hx hb dL_acts_141 (by decide) ?_
      refine lv_icmp_ge (tgt := 157) hx hb dL_acts_143 (by decide) (fun h => absurd h (by decide)) (fun _ => ?_)
      refine lv_aload_n hx hb dL_acts_146 rfl (lv_at hl 4 rfl) ?_
      refine lv_iload hx hb dL_acts_147 (lv_at hl 0 rfl) ?_
      refine lv_iconst (v := 0) hx hb dL_acts_149 (by decide) ?_
      refine o_iast (D := (dC, dI)) (tys := tYS cI cB cO cL) (k := 2) hx hb hK hG hI hW hS rfl 0 0 rfl rfl (by decide) (by decide) (by decide) dL_acts_150 (fun H locs hI hW hS => ?_)
      obtain ⟨gc, e_gc⟩ : ∃ z9 : Nat → Int32, z9 = upd gb 2 0 := ⟨_, rfl⟩
      have hW : va_P (dC, dI) vwCl (arW qg qm qw cI gc m9 w) H := by rw [e_gc]; exact hW
      refine lv_iinc (v := 3) (lv' := [(7, .int 3), (6, .int (g 5)), (5, .int (nI vn)), (0, .ref (qk 0)), (1, .ref (qg 0)), (2, .ref (qm 0)), (3, .ref (qw 0)), (4, .int z)]) hx hb dL_acts_151 hl (k := 0) rfl (by decide) (by decide) rfl (fun ls hl => ?_)
      refine lv_goto (tgt := 139) hx hb dL_acts_154 (by decide) ?_
      refine lv_iload hx hb dL_acts_139 (lv_at hl 0 rfl) ?_
      refine lv_bipush (v := 6) hx hb dL_acts_141 (by decide) ?_
      refine lv_icmp_ge (tgt := 157) hx hb dL_acts_143 (by decide) (fun h => absurd h (by decide)) (fun _ => ?_)
      refine lv_aload_n hx hb dL_acts_146 rfl (lv_at hl 4 rfl) ?_
      refine lv_iload hx hb dL_acts_147 (lv_at hl 0 rfl) ?_
      refine lv_iconst (v := 0) hx hb dL_acts_149 (by decide) ?_
      refine o_iast (D := (dC, dI)) (tys := tYS cI cB cO cL) (k := 3) hx hb hK hG hI hW hS rfl 0 0 rfl rfl (by decide) (by decide) (by decide) dL_acts_150 (fun H locs hI hW hS => ?_)
      obtain ⟨gd, e_gd⟩ : ∃ z9 : Nat → Int32, z9 = upd gc 3 0 := ⟨_, rfl⟩
      have hW : va_P (dC, dI) vwCl (arW qg qm qw cI gd m9 w) H := by rw [e_gd]; exact hW
      refine lv_iinc (v := 4) (lv' := [(7, .int 4), (6, .int (g 5)), (5, .int (nI vn)), (0, .ref (qk 0)), (1, .ref (qg 0)), (2, .ref (qm 0)), (3, .ref (qw 0)), (4, .int z)]) hx hb dL_acts_151 hl (k := 0) rfl (by decide) (by decide) rfl (fun ls hl => ?_)
      refine lv_goto (tgt := 139) hx hb dL_acts_154 (by decide) ?_
      refine lv_iload hx hb dL_acts_139 (lv_at hl 0 rfl) ?_
      refine lv_bipush (v := 6) hx hb dL_acts_141 (by decide) ?_
      refine lv_icmp_ge (tgt := 157) hx hb dL_acts_143 (by decide) (fun h => absurd h (by decide)) (fun _ => ?_)
      refine lv_aload_n hx hb dL_acts_146 rfl (lv_at hl 4 rfl) ?_
      refine lv_iload hx hb dL_acts_147 (lv_at hl 0 rfl) ?_
      refine lv_iconst (v := 0) hx hb dL_acts_149 (by decide) ?_
      refine o_iast (D := (dC, dI)) (tys := tYS cI cB cO cL) (k := 4) hx hb hK hG hI hW hS rfl 0 0 rfl rfl (by decide) (by decide) (by decide) dL_acts_150 (fun H locs hI hW hS => ?_)
      obtain ⟨ge, e_ge⟩ : ∃ z9 : Nat → Int32, z9 = upd gd 4 0 := ⟨_, rfl⟩
      have hW : va_P (dC, dI) vwCl (arW qg qm qw cI ge m9 w) H := by rw [e_ge]; exact hW
      refine lv_iinc (v := 5) (lv' := [(7, .int 5), (6, .int (g 5)), (5, .int (nI vn)), (0, .ref (qk 0)), (1, .ref (qg 0)), (2, .ref (qm 0)), (3, .ref (qw 0)), (4, .int z)]) hx hb dL_acts_151 hl (k := 0) rfl (by decide) (by decide) rfl (fun ls hl => ?_)
      refine lv_goto (tgt := 139) hx hb dL_acts_154 (by decide) ?_
      refine lv_iload hx hb dL_acts_139 (lv_at hl 0 rfl) ?_
      refine lv_bipush (v := 6) hx hb dL_acts_141 (by decide) ?_
      refine lv_icmp_ge (tgt := 157) hx hb dL_acts_143 (by decide) (fun h => absurd h (by decide)) (fun _ => ?_)
      refine lv_aload_n hx hb dL_acts_146 rfl (lv_at hl 4 rfl) ?_
      refine lv_iload hx hb dL_acts_147 (lv_at hl 0 rfl) ?_
      refine lv_iconst (v := 0) hx hb dL_acts_149 (by decide) ?_
      refine o_iast (D := (dC, dI)) (tys := tYS cI cB cO cL) (k := 5) hx hb hK hG hI hW hS rfl 0 0 rfl rfl (by decide) (by decide) (by decide) dL_acts_150 (fun H locs hI hW hS => ?_)
      obtain ⟨gf, e_gf⟩ : ∃ z9 : Nat → Int32, z9 = upd ge 5 0 := ⟨_, rfl⟩
      have hW : va_P (dC, dI) vwCl (arW qg qm qw cI gf m9 w) H := by rw [e_gf]; exact hW
      refine lv_iinc (v := 6) (lv' := [(7, .int 6), (6, .int (g 5)), (5, .int (nI vn)), (0, .ref (qk 0)), (1, .ref (qg 0)), (2, .ref (qm 0)), (3, .ref (qw 0)), (4, .int z)]) hx hb dL_acts_151 hl (k := 0) rfl (by decide) (by decide) rfl (fun ls hl => ?_)
      refine lv_goto (tgt := 139) hx hb dL_acts_154 (by decide) ?_
      refine lv_iload hx hb dL_acts_139 (lv_at hl 0 rfl) ?_
      refine lv_bipush (v := 6) hx hb dL_acts_141 (by decide) ?_
      refine lv_icmp_ge (tgt := 157) hx hb dL_acts_143 (by decide) (fun _ => ?_) (fun h => absurd h (by decide))
      refine lv_aload_n hx hb dL_acts_157 rfl (lv_at hl 3 rfl) ?_
      refine lv_aload_n hx hb dL_acts_158 rfl (lv_at hl 4 rfl) ?_
      refine lv_iconst (v := 0) hx hb dL_acts_159 (by decide) ?_
      refine g_ialdK (D := (dC, dI)) (tys := tYS cI cB cO cL) (k := 0) hx hb hK hW 0 0 rfl rfl (by decide) (by decide) (by decide) dL_acts_160 ?_
      refine tp_i (show (gf 0) = nI (2 + (vn / 4) % 5) from by rw [e_gf, upd_ne _ _ (show 0 ≠ 5 by omega), e_ge, upd_ne _ _ (show 0 ≠ 4 by omega), e_gd, upd_ne _ _ (show 0 ≠ 3 by omega), e_gc, upd_ne _ _ (show 0 ≠ 2 by omega), e_gb, upd_ne _ _ (show 0 ≠ 1 by omega), e_ga, upd_eq]) ?_
      refine lv_aload_n hx hb dL_acts_161 rfl (lv_at hl 4 rfl) ?_
      refine lv_iconst (v := 1) hx hb dL_acts_162 (by decide) ?_
      refine g_ialdK (D := (dC, dI)) (tys := tYS cI cB cO cL) (k := 1) hx hb hK hW 0 0 rfl rfl (by decide) (by decide) (by decide) dL_acts_163 ?_
      refine tp_i (show (gf 1) = nI (2 + (vn / 20) % 5) from by rw [e_gf, upd_ne _ _ (show 1 ≠ 5 by omega), e_ge, upd_ne _ _ (show 1 ≠ 4 by omega), e_gd, upd_ne _ _ (show 1 ≠ 3 by omega), e_gc, upd_ne _ _ (show 1 ≠ 2 by omega), e_gb, upd_eq]) ?_
      obtain ⟨b1, u1, hf, hk, hU1, hD1⟩ := begin_ok (g' := gf) (c := 2 + vn / 4 % 5) (r := 2 + vn / 20 % 5) hD hU s9 kk (by omega) (by omega) (show gf 0 = nI (2 + (vn / 4) % 5) from by rw [e_gf, upd_ne _ _ (show 0 ≠ 5 by omega), e_ge, upd_ne _ _ (show 0 ≠ 4 by omega), e_gd, upd_ne _ _ (show 0 ≠ 3 by omega), e_gc, upd_ne _ _ (show 0 ≠ 2 by omega), e_gb, upd_ne _ _ (show 0 ≠ 1 by omega), e_ga, upd_eq]) (show gf 1 = nI (2 + (vn / 20) % 5) from by rw [e_gf, upd_ne _ _ (show 1 ≠ 5 by omega), e_ge, upd_ne _ _ (show 1 ≠ 4 by omega), e_gd, upd_ne _ _ (show 1 ≠ 3 by omega), e_gc, upd_ne _ _ (show 1 ≠ 2 by omega), e_gb, upd_eq]) (fun q h2 h6 => by
          have : q = 2 ∨ q = 3 ∨ q = 4 ∨ q = 5 := by omega
          rcases this with e | e | e | e <;> rw [e]
          · rw [e_gf, upd_ne _ _ (show 2 ≠ 5 by omega), e_ge, upd_ne _ _ (show 2 ≠ 4 by omega), e_gd, upd_ne _ _ (show 2 ≠ 3 by omega), e_gc, upd_eq]
          · rw [e_gf, upd_ne _ _ (show 3 ≠ 5 by omega), e_ge, upd_ne _ _ (show 3 ≠ 4 by omega), e_gd, upd_eq]
          · rw [e_gf, upd_ne _ _ (show 4 ≠ 5 by omega), e_ge, upd_eq]
          · rw [e_gf, upd_eq]) (fun q h6 h14 => by rw [e_gf, upd_ne _ _ (show q ≠ 5 by omega), e_ge, upd_ne _ _ (show q ≠ 4 by omega), e_gd, upd_ne _ _ (show q ≠ 3 by omega), e_gc, upd_ne _ _ (show q ≠ 2 by omega), e_gb, upd_ne _ _ (show q ≠ 1 by omega), e_ga, upd_ne _ _ (show q ≠ 0 by omega)])
      have f1 := And.intro hf hk
      refine w_begins (R := rL_acts) (cells := 0) (slots := 0) (wo := arW qg qm qw cI gf m9 w) hfl hx hb hml hown hts hK hF hC hN hG hA rfl hN0 hS hI hW f1.1 f1.2 (Or.inl rfl) ⟨Nat.le_of_ble_eq_true rfl, Nat.le_of_ble_eq_true rfl⟩ ((g 5)) (rfl) (Nat.le_of_ble_eq_true rfl) hl.1 dL_acts_164 ⟨(by omega : 0 + 4 ≤ 5), (by omega : 0 + 24 ≤ 84)⟩ (fun H locs hI hW hS => ?_)
      refine lv_iload hx hb dL_acts_167 (lv_at hl 1 rfl) ?_
      refine lv_icmp_ne (tgt := 176) hx hb dL_acts_169 (by decide) (fun h => absurd (rfl) h) (fun _ => ?_)
      refine lv_iconst (v := 1) hx hb dL_acts_172 (by decide) ?_
      refine lv_goto (tgt := 177) hx hb dL_acts_173 (by decide) ?_
      exact hend 177 _ _ _ _ _ (b1, (pX8_outdate s9), u1, tr, te) gf m9 w ⟨_, _, 0, 0, 0, hD1, SVI_old _ _ _, hU1⟩ hI hW hS (by omega) (by omega) dL_acts_177
    · refine lv_if_le (tgt := 108) hx hb dL_acts_88 (by decide) (fun h => absurd h (nI_nle (n := vn % 4) (by omega) (by omega))) (fun _ => ?_)
      refine lv_aload_n hx hb dL_acts_91 rfl (lv_at hl 1 rfl) ?_
      refine lv_iconst (v := 1) hx hb dL_acts_92 (by decide) ?_
      refine lv_iconst (v := 5) hx hb dL_acts_93 (by decide) ?_
      have f2 := begin_no b s9 u kk
      refine w_begins (R := rL_acts) (cells := 0) (slots := 0) (wo := arW qg qm qw cI g m9 w) hfl hx hb hml hown hts hK hF hC hN hG hA rfl hN0 hS hI hW f2.1 f2.2 (Or.inr rfl) ⟨Nat.le_of_ble_eq_true rfl, Nat.le_of_ble_eq_true rfl⟩ ((-100000002)) (rfl) (Nat.le_of_ble_eq_true rfl) hl.1 dL_acts_94 ⟨(by omega : 0 + 4 ≤ 5), (by omega : 0 + 24 ≤ 84)⟩ (fun H locs hI hW hS => ?_)
      refine lv_ldc (v := (-100000002)) hx hb hown (hts (.constant RL 48 (-100000002)) (gTt tw443)) dL_acts_97 ?_
      refine lv_icmp_ne (tgt := 106) hx hb dL_acts_99 (by decide) (fun h => absurd (rfl) h) (fun _ => ?_)
      refine lv_iconst (v := 1) hx hb dL_acts_102 (by decide) ?_
      refine lv_goto (tgt := 107) hx hb dL_acts_103 (by decide) ?_
      exact hend 107 _ _ _ _ _ (b, s9, u, tr, te) g m9 w ⟨Cn, Rn, Mn, Wn, Nn, hD, hV, hU⟩ hI hW hS (by omega) (by omega) dL_acts_107
  have K178 : ∀ ls : Array Slot, lv_has ls 20 [(5, .int (nI vn)), (0, .ref (qk 0)), (1, .ref (qg 0)), (2, .ref (qm 0)), (3, .ref (qw 0)), (4, .int z)] → W p l e rL_acts s m ([.ref (qk 0), .ref (qg 0), .ref (qm 0), .ref (qw 0), .int z] : List Value).toArray below meth c s.heap [] (0) (0) QQ (F0 m 178 ls []) := by
    intro ls hl
    refine lv_iload hx hb dL_acts_178 (lv_at hl 0 rfl) ?_
    refine lv_sipush (v := 1500) hx hb dL_acts_180 (by decide) ?_
    refine lv_irem hx hb dL_acts_183 (by decide) ?_
    refine tp_i (show ((nI vn) - (nI vn) / (1500 : Int32) * (1500 : Int32)) = nI (vn % 1500) from nx_rem (a := vn) (d := 1500) (by omega) (by omega) (by omega)) ?_
    refine lv_sipush (v := 200) hx hb dL_acts_184 (by decide) ?_
    refine lv_isub hx hb dL_acts_187 ?_
    obtain ⟨x9, ex9, hx9⟩ := off_g (j := vn % 1500) (a := 200) (by decide) (by omega)
    refine tp_i (show ((nI (vn % 1500)) - (200 : Int32)) = x9 from ex9) ?_
    refine lv_istore (lv' := [(7, .int x9), (5, .int (nI vn)), (0, .ref (qk 0)), (1, .ref (qg 0)), (2, .ref (qm 0)), (3, .ref (qw 0)), (4, .int z)]) hx hb dL_acts_188 hl (by decide) rfl (fun ls hl => ?_)
    refine lv_iload hx hb dL_acts_190 (lv_at hl 1 rfl) ?_
    refine lv_sipush (v := 1500) hx hb dL_acts_192 (by decide) ?_
    refine lv_idiv hx hb dL_acts_195 (by decide) ?_
    refine tp_i (show ((nI vn) / (1500 : Int32)) = nI (vn / 1500) from nx_div (a := vn) (d := 1500) (by omega) (by omega) (by omega)) ?_
    refine lv_sipush (v := 1500) hx hb dL_acts_196 (by decide) ?_
    refine lv_irem hx hb dL_acts_199 (by decide) ?_
    refine tp_i (show ((nI (vn / 1500)) - (nI (vn / 1500)) / (1500 : Int32) * (1500 : Int32)) = nI ((vn / 1500) % 1500) from nx_rem (a := vn / 1500) (d := 1500) (by omega) (by omega) (by omega)) ?_
    refine lv_sipush (v := 200) hx hb dL_acts_200 (by decide) ?_
    refine lv_isub hx hb dL_acts_203 ?_
    obtain ⟨y9, ey9, hy9⟩ := off_g (j := vn / 1500 % 1500) (a := 200) (by decide) (by omega)
    refine tp_i (show ((nI ((vn / 1500) % 1500)) - (200 : Int32)) = y9 from ey9) ?_
    refine lv_istore (lv' := [(8, .int y9), (7, .int x9), (5, .int (nI vn)), (0, .ref (qk 0)), (1, .ref (qg 0)), (2, .ref (qm 0)), (3, .ref (qw 0)), (4, .int z)]) hx hb dL_acts_204 hl (by decide) rfl (fun ls hl => ?_)
    refine lv_aload_n hx hb dL_acts_206 rfl (lv_at hl 4 rfl) ?_
    refine lv_iconst (v := 2) hx hb dL_acts_207 (by decide) ?_
    refine g_ialdK (D := (dC, dI)) (tys := tYS cI cB cO cL) (k := 2) hx hb hK hW 0 0 rfl rfl (by decide) (by decide) (by decide) dL_acts_208 ?_
    refine tp_i (show (g 2) = nI Mn from hD.1.eM) ?_
    refine lv_iconst (v := 4) hx hb dL_acts_209 (by decide) ?_
    by_cases h9 : Mn = 4
    · refine lv_icmp_ne (tgt := 233) hx hb dL_acts_210 (by decide) (fun h => absurd (show nI (Mn) = (4 : Int32) by rw [h9]; rfl) h) (fun _ => ?_)
      refine lv_aload_n hx hb dL_acts_213 rfl (lv_at hl 3 rfl) ?_
      refine lv_sipush (v := 2501) hx hb dL_acts_214 (by decide) ?_
      refine lv_iload hx hb dL_acts_217 (lv_at hl 0 rfl) ?_
      have f3 := mic_no b s9 u kk y9
      refine w_mics (R := rL_acts) (cells := 0) (slots := 0) (wo := arW qg qm qw cI g m9 w) hfl hx hb hml hown hts hK hF hC hN hG hA rfl hN0 hS hI hW f3.1 f3.2 (Or.inr (Or.inl rfl)) ⟨Nat.le_of_ble_eq_true rfl, Nat.le_of_ble_eq_true rfl⟩ ((-100000002)) (rfl) (Nat.le_of_ble_eq_true rfl) hl.1 dL_acts_219 ⟨(by omega : 0 + 4 ≤ 5), (by omega : 0 + 24 ≤ 84)⟩ (fun H locs hI hW hS => ?_)
      refine lv_ldc (v := (-100000002)) hx hb hown (hts (.constant RL 48 (-100000002)) (gTt tw443)) dL_acts_222 ?_
      refine lv_icmp_ne (tgt := 231) hx hb dL_acts_224 (by decide) (fun h => absurd (rfl) h) (fun _ => ?_)
      refine lv_iconst (v := 1) hx hb dL_acts_227 (by decide) ?_
      refine lv_goto (tgt := 232) hx hb dL_acts_228 (by decide) ?_
      exact hend 232 _ _ _ _ _ (b, s9, u, tr, te) g m9 w ⟨Cn, Rn, Mn, Wn, Nn, hD, hV, hU⟩ hI hW hS (by omega) (by omega) dL_acts_232
    · refine lv_icmp_ne (tgt := 233) hx hb dL_acts_210 (by decide) (fun _ => ?_) (fun h => absurd ((nI_eq (a := Mn) (b := 4) (by omega) (by decide)).mp h) (by omega))
      have hM4 : Mn < 4 := by omega
      refine lv_iconst (v := 0) hx hb dL_acts_233 (by decide) ?_
      refine lv_istore (lv' := [(9, .int 0), (8, .int y9), (7, .int x9), (5, .int (nI vn)), (0, .ref (qk 0)), (1, .ref (qg 0)), (2, .ref (qm 0)), (3, .ref (qw 0)), (4, .int z)]) hx hb dL_acts_234 hl (by decide) rfl (fun ls hl => ?_)
      refine lv_iload hx hb dL_acts_236 (lv_at hl 0 rfl) ?_
      refine lv_bipush (v := 10) hx hb dL_acts_238 (by decide) ?_
      refine lv_icmp_ge (tgt := 273) hx hb dL_acts_240 (by decide) (fun h => absurd h (by decide)) (fun _ => ?_)
      refine lv_aload_n hx hb dL_acts_243 rfl (lv_at hl 6 rfl) ?_
      refine lv_bipush (v := 10) hx hb dL_acts_244 (by decide) ?_
      refine lv_aload_n hx hb dL_acts_246 rfl (lv_at hl 5 rfl) ?_
      refine lv_iconst (v := 2) hx hb dL_acts_247 (by decide) ?_
      refine g_ialdK (D := (dC, dI)) (tys := tYS cI cB cO cL) (k := 2) hx hb hK hW 0 0 rfl rfl (by decide) (by decide) (by decide) dL_acts_248 ?_
      refine tp_i (show (g 2) = nI Mn from hD.1.eM) ?_
      refine lv_imul hx hb dL_acts_249 ?_
      refine tp_i (show ((10 : Int32) * (nI Mn)) = nI (10 * Mn) from pk_mul 10 Mn) ?_
      refine lv_iload hx hb dL_acts_250 (lv_at hl 0 rfl) ?_
      refine lv_iadd hx hb dL_acts_252 ?_
      refine tp_i (show ((nI (10 * Mn)) + (0 : Int32)) = nI (10 * Mn) from nI_add (10 * Mn) 0) ?_
      refine lv_iload hx hb dL_acts_253 (lv_at hl 0 rfl) ?_
      refine lv_bipush (v := 6) hx hb dL_acts_255 (by decide) ?_
      refine lv_icmp_ge (tgt := 264) hx hb dL_acts_257 (by decide) (fun h => absurd h (by decide)) (fun _ => ?_)
      refine lv_iconst (v := 0) hx hb dL_acts_260 (by decide) ?_
      refine lv_goto (tgt := 266) hx hb dL_acts_261 (by decide) ?_
      refine o_iast (D := (dC, dI)) (tys := tYS cI cB cO cL) (k := 10 * Mn) hx hb hK hG hI hW hS rfl 1 0 rfl rfl (nI_clamp (by omega)) (nI_pos (by omega)) (by omega) dL_acts_266 (fun H locs hI hW hS => ?_)
      obtain ⟨p0, e_p0⟩ : ∃ z9 : Nat → Int32, z9 = upd m9 (10 * Mn) 0 := ⟨_, rfl⟩
      have hW : va_P (dC, dI) vwCl (arW qg qm qw cI g p0 w) H := by rw [e_p0]; exact hW
      refine lv_iinc (v := 1) (lv' := [(9, .int 1), (8, .int y9), (7, .int x9), (5, .int (nI vn)), (0, .ref (qk 0)), (1, .ref (qg 0)), (2, .ref (qm 0)), (3, .ref (qw 0)), (4, .int z)]) hx hb dL_acts_267 hl (k := 0) rfl (by decide) (by decide) rfl (fun ls hl => ?_)
      refine lv_goto (tgt := 236) hx hb dL_acts_270 (by decide) ?_
      refine lv_iload hx hb dL_acts_236 (lv_at hl 0 rfl) ?_
      refine lv_bipush (v := 10) hx hb dL_acts_238 (by decide) ?_
      refine lv_icmp_ge (tgt := 273) hx hb dL_acts_240 (by decide) (fun h => absurd h (by decide)) (fun _ => ?_)
      refine lv_aload_n hx hb dL_acts_243 rfl (lv_at hl 6 rfl) ?_
      refine lv_bipush (v := 10) hx hb dL_acts_244 (by decide) ?_
      refine lv_aload_n hx hb dL_acts_246 rfl (lv_at hl 5 rfl) ?_
      refine lv_iconst (v := 2) hx hb dL_acts_247 (by decide) ?_
      refine g_ialdK (D := (dC, dI)) (tys := tYS cI cB cO cL) (k := 2) hx hb hK hW 0 0 rfl rfl (by decide) (by decide) (by decide) dL_acts_248 ?_
      refine tp_i (show (g 2) = nI Mn from hD.1.eM) ?_
      refine lv_imul hx hb dL_acts_249 ?_
      refine tp_i (show ((10 : Int32) * (nI Mn)) = nI (10 * Mn) from pk_mul 10 Mn) ?_
      refine lv_iload hx hb dL_acts_250 (lv_at hl 0 rfl) ?_
      refine lv_iadd hx hb dL_acts_252 ?_
      refine tp_i (show ((nI (10 * Mn)) + (1 : Int32)) = nI (10 * Mn + 1) from nI_add (10 * Mn) 1) ?_
      refine lv_iload hx hb dL_acts_253 (lv_at hl 0 rfl) ?_
      refine lv_bipush (v := 6) hx hb dL_acts_255 (by decide) ?_
      refine lv_icmp_ge (tgt := 264) hx hb dL_acts_257 (by decide) (fun h => absurd h (by decide)) (fun _ => ?_)
      refine lv_iconst (v := 0) hx hb dL_acts_260 (by decide) ?_
      refine lv_goto (tgt := 266) hx hb dL_acts_261 (by decide) ?_
      refine o_iast (D := (dC, dI)) (tys := tYS cI cB cO cL) (k := 10 * Mn + 1) hx hb hK hG hI hW hS rfl 1 0 rfl rfl (nI_clamp (by omega)) (nI_pos (by omega)) (by omega) dL_acts_266 (fun H locs hI hW hS => ?_)
      obtain ⟨p1, e_p1⟩ : ∃ z9 : Nat → Int32, z9 = upd p0 (10 * Mn + 1) 0 := ⟨_, rfl⟩
      have hW : va_P (dC, dI) vwCl (arW qg qm qw cI g p1 w) H := by rw [e_p1]; exact hW
      refine lv_iinc (v := 2) (lv' := [(9, .int 2), (8, .int y9), (7, .int x9), (5, .int (nI vn)), (0, .ref (qk 0)), (1, .ref (qg 0)), (2, .ref (qm 0)), (3, .ref (qw 0)), (4, .int z)]) hx hb dL_acts_267 hl (k := 0) rfl (by decide) (by decide) rfl (fun ls hl => ?_)
      refine lv_goto (tgt := 236) hx hb dL_acts_270 (by decide) ?_
      refine lv_iload hx hb dL_acts_236 (lv_at hl 0 rfl) ?_
      refine lv_bipush (v := 10) hx hb dL_acts_238 (by decide) ?_
      refine lv_icmp_ge (tgt := 273) hx hb dL_acts_240 (by decide) (fun h => absurd h (by decide)) (fun _ => ?_)
      refine lv_aload_n hx hb dL_acts_243 rfl (lv_at hl 6 rfl) ?_
      refine lv_bipush (v := 10) hx hb dL_acts_244 (by decide) ?_
      refine lv_aload_n hx hb dL_acts_246 rfl (lv_at hl 5 rfl) ?_
      refine lv_iconst (v := 2) hx hb dL_acts_247 (by decide) ?_
      refine g_ialdK (D := (dC, dI)) (tys := tYS cI cB cO cL) (k := 2) hx hb hK hW 0 0 rfl rfl (by decide) (by decide) (by decide) dL_acts_248 ?_
      refine tp_i (show (g 2) = nI Mn from hD.1.eM) ?_
      refine lv_imul hx hb dL_acts_249 ?_
      refine tp_i (show ((10 : Int32) * (nI Mn)) = nI (10 * Mn) from pk_mul 10 Mn) ?_
      refine lv_iload hx hb dL_acts_250 (lv_at hl 0 rfl) ?_
      refine lv_iadd hx hb dL_acts_252 ?_
      refine tp_i (show ((nI (10 * Mn)) + (2 : Int32)) = nI (10 * Mn + 2) from nI_add (10 * Mn) 2) ?_
      refine lv_iload hx hb dL_acts_253 (lv_at hl 0 rfl) ?_
      refine lv_bipush (v := 6) hx hb dL_acts_255 (by decide) ?_
      refine lv_icmp_ge (tgt := 264) hx hb dL_acts_257 (by decide) (fun h => absurd h (by decide)) (fun _ => ?_)
      refine lv_iconst (v := 0) hx hb dL_acts_260 (by decide) ?_
      refine lv_goto (tgt := 266) hx hb dL_acts_261 (by decide) ?_
      refine o_iast (D := (dC, dI)) (tys := tYS cI cB cO cL) (k := 10 * Mn + 2) hx hb hK hG hI hW hS rfl 1 0 rfl rfl (nI_clamp (by omega)) (nI_pos (by omega)) (by omega) dL_acts_266 (fun H locs hI hW hS => ?_)
      obtain ⟨p2, e_p2⟩ : ∃ z9 : Nat → Int32, z9 = upd p1 (10 * Mn + 2) 0 := ⟨_, rfl⟩
      have hW : va_P (dC, dI) vwCl (arW qg qm qw cI g p2 w) H := by rw [e_p2]; exact hW
      refine lv_iinc (v := 3) (lv' := [(9, .int 3), (8, .int y9), (7, .int x9), (5, .int (nI vn)), (0, .ref (qk 0)), (1, .ref (qg 0)), (2, .ref (qm 0)), (3, .ref (qw 0)), (4, .int z)]) hx hb dL_acts_267 hl (k := 0) rfl (by decide) (by decide) rfl (fun ls hl => ?_)
      refine lv_goto (tgt := 236) hx hb dL_acts_270 (by decide) ?_
      refine lv_iload hx hb dL_acts_236 (lv_at hl 0 rfl) ?_
      refine lv_bipush (v := 10) hx hb dL_acts_238 (by decide) ?_
      refine lv_icmp_ge (tgt := 273) hx hb dL_acts_240 (by decide) (fun h => absurd h (by decide)) (fun _ => ?_)
      refine lv_aload_n hx hb dL_acts_243 rfl (lv_at hl 6 rfl) ?_
      refine lv_bipush (v := 10) hx hb dL_acts_244 (by decide) ?_
      refine lv_aload_n hx hb dL_acts_246 rfl (lv_at hl 5 rfl) ?_
      refine lv_iconst (v := 2) hx hb dL_acts_247 (by decide) ?_
      refine g_ialdK (D := (dC, dI)) (tys := tYS cI cB cO cL) (k := 2) hx hb hK hW 0 0 rfl rfl (by decide) (by decide) (by decide) dL_acts_248 ?_
      refine tp_i (show (g 2) = nI Mn from hD.1.eM) ?_
      refine lv_imul hx hb dL_acts_249 ?_
      refine tp_i (show ((10 : Int32) * (nI Mn)) = nI (10 * Mn) from pk_mul 10 Mn) ?_
      refine lv_iload hx hb dL_acts_250 (lv_at hl 0 rfl) ?_
      refine lv_iadd hx hb dL_acts_252 ?_
      refine tp_i (show ((nI (10 * Mn)) + (3 : Int32)) = nI (10 * Mn + 3) from nI_add (10 * Mn) 3) ?_
      refine lv_iload hx hb dL_acts_253 (lv_at hl 0 rfl) ?_
      refine lv_bipush (v := 6) hx hb dL_acts_255 (by decide) ?_
      refine lv_icmp_ge (tgt := 264) hx hb dL_acts_257 (by decide) (fun h => absurd h (by decide)) (fun _ => ?_)
      refine lv_iconst (v := 0) hx hb dL_acts_260 (by decide) ?_
      refine lv_goto (tgt := 266) hx hb dL_acts_261 (by decide) ?_
      refine o_iast (D := (dC, dI)) (tys := tYS cI cB cO cL) (k := 10 * Mn + 3) hx hb hK hG hI hW hS rfl 1 0 rfl rfl (nI_clamp (by omega)) (nI_pos (by omega)) (by omega) dL_acts_266 (fun H locs hI hW hS => ?_)
      obtain ⟨p3, e_p3⟩ : ∃ z9 : Nat → Int32, z9 = upd p2 (10 * Mn + 3) 0 := ⟨_, rfl⟩
      have hW : va_P (dC, dI) vwCl (arW qg qm qw cI g p3 w) H := by rw [e_p3]; exact hW
      refine lv_iinc (v := 4) (lv' := [(9, .int 4), (8, .int y9), (7, .int x9), (5, .int (nI vn)), (0, .ref (qk 0)), (1, .ref (qg 0)), (2, .ref (qm 0)), (3, .ref (qw 0)), (4, .int z)]) hx hb dL_acts_267 hl (k := 0) rfl (by decide) (by decide) rfl (fun ls hl => ?_)
      refine lv_goto (tgt := 236) hx hb dL_acts_270 (by decide) ?_
      refine lv_iload hx hb dL_acts_236 (lv_at hl 0 rfl) ?_
      refine lv_bipush (v := 10) hx hb dL_acts_238 (by decide) ?_
      refine lv_icmp_ge (tgt := 273) hx hb dL_acts_240 (by decide) (fun h => absurd h (by decide)) (fun _ => ?_)
      refine lv_aload_n hx hb dL_acts_243 rfl (lv_at hl 6 rfl) ?_
      refine lv_bipush (v := 10) hx hb dL_acts_244 (by decide) ?_
      refine lv_aload_n hx hb dL_acts_246 rfl (lv_at hl 5 rfl) ?_
      refine lv_iconst (v := 2) hx hb dL_acts_247 (by decide) ?_
      refine g_ialdK (D := (dC, dI)) (tys := tYS cI cB cO cL) (k := 2) hx hb hK hW 0 0 rfl rfl (by decide) (by decide) (by decide) dL_acts_248 ?_
      refine tp_i (show (g 2) = nI Mn from hD.1.eM) ?_
      refine lv_imul hx hb dL_acts_249 ?_
      refine tp_i (show ((10 : Int32) * (nI Mn)) = nI (10 * Mn) from pk_mul 10 Mn) ?_
      refine lv_iload hx hb dL_acts_250 (lv_at hl 0 rfl) ?_
      refine lv_iadd hx hb dL_acts_252 ?_
      refine tp_i (show ((nI (10 * Mn)) + (4 : Int32)) = nI (10 * Mn + 4) from nI_add (10 * Mn) 4) ?_
      refine lv_iload hx hb dL_acts_253 (lv_at hl 0 rfl) ?_
      refine lv_bipush (v := 6) hx hb dL_acts_255 (by decide) ?_
      refine lv_icmp_ge (tgt := 264) hx hb dL_acts_257 (by decide) (fun h => absurd h (by decide)) (fun _ => ?_)
      refine lv_iconst (v := 0) hx hb dL_acts_260 (by decide) ?_
      refine lv_goto (tgt := 266) hx hb dL_acts_261 (by decide) ?_
      refine o_iast (D := (dC, dI)) (tys := tYS cI cB cO cL) (k := 10 * Mn + 4) hx hb hK hG hI hW hS rfl 1 0 rfl rfl (nI_clamp (by omega)) (nI_pos (by omega)) (by omega) dL_acts_266 (fun H locs hI hW hS => ?_)
      obtain ⟨p4, e_p4⟩ : ∃ z9 : Nat → Int32, z9 = upd p3 (10 * Mn + 4) 0 := ⟨_, rfl⟩
      have hW : va_P (dC, dI) vwCl (arW qg qm qw cI g p4 w) H := by rw [e_p4]; exact hW
      refine lv_iinc (v := 5) (lv' := [(9, .int 5), (8, .int y9), (7, .int x9), (5, .int (nI vn)), (0, .ref (qk 0)), (1, .ref (qg 0)), (2, .ref (qm 0)), (3, .ref (qw 0)), (4, .int z)]) hx hb dL_acts_267 hl (k := 0) rfl (by decide) (by decide) rfl (fun ls hl => ?_)
      refine lv_goto (tgt := 236) hx hb dL_acts_270 (by decide) ?_
      refine lv_iload hx hb dL_acts_236 (lv_at hl 0 rfl) ?_
      refine lv_bipush (v := 10) hx hb dL_acts_238 (by decide) ?_
      refine lv_icmp_ge (tgt := 273) hx hb dL_acts_240 (by decide) (fun h => absurd h (by decide)) (fun _ => ?_)
      refine lv_aload_n hx hb dL_acts_243 rfl (lv_at hl 6 rfl) ?_
      refine lv_bipush (v := 10) hx hb dL_acts_244 (by decide) ?_
      refine lv_aload_n hx hb dL_acts_246 rfl (lv_at hl 5 rfl) ?_
      refine lv_iconst (v := 2) hx hb dL_acts_247 (by decide) ?_
      refine g_ialdK (D := (dC, dI)) (tys := tYS cI cB cO cL) (k := 2) hx hb hK hW 0 0 rfl rfl (by decide) (by decide) (by decide) dL_acts_248 ?_
      refine tp_i (show (g 2) = nI Mn from hD.1.eM) ?_
      refine lv_imul hx hb dL_acts_249 ?_
      refine tp_i (show ((10 : Int32) * (nI Mn)) = nI (10 * Mn) from pk_mul 10 Mn) ?_
      refine lv_iload hx hb dL_acts_250 (lv_at hl 0 rfl) ?_
      refine lv_iadd hx hb dL_acts_252 ?_
      refine tp_i (show ((nI (10 * Mn)) + (5 : Int32)) = nI (10 * Mn + 5) from nI_add (10 * Mn) 5) ?_
      refine lv_iload hx hb dL_acts_253 (lv_at hl 0 rfl) ?_
      refine lv_bipush (v := 6) hx hb dL_acts_255 (by decide) ?_
      refine lv_icmp_ge (tgt := 264) hx hb dL_acts_257 (by decide) (fun h => absurd h (by decide)) (fun _ => ?_)
      refine lv_iconst (v := 0) hx hb dL_acts_260 (by decide) ?_
      refine lv_goto (tgt := 266) hx hb dL_acts_261 (by decide) ?_
      refine o_iast (D := (dC, dI)) (tys := tYS cI cB cO cL) (k := 10 * Mn + 5) hx hb hK hG hI hW hS rfl 1 0 rfl rfl (nI_clamp (by omega)) (nI_pos (by omega)) (by omega) dL_acts_266 (fun H locs hI hW hS => ?_)
      obtain ⟨p5, e_p5⟩ : ∃ z9 : Nat → Int32, z9 = upd p4 (10 * Mn + 5) 0 := ⟨_, rfl⟩
      have hW : va_P (dC, dI) vwCl (arW qg qm qw cI g p5 w) H := by rw [e_p5]; exact hW
      refine lv_iinc (v := 6) (lv' := [(9, .int 6), (8, .int y9), (7, .int x9), (5, .int (nI vn)), (0, .ref (qk 0)), (1, .ref (qg 0)), (2, .ref (qm 0)), (3, .ref (qw 0)), (4, .int z)]) hx hb dL_acts_267 hl (k := 0) rfl (by decide) (by decide) rfl (fun ls hl => ?_)
      refine lv_goto (tgt := 236) hx hb dL_acts_270 (by decide) ?_
      refine lv_iload hx hb dL_acts_236 (lv_at hl 0 rfl) ?_
      refine lv_bipush (v := 10) hx hb dL_acts_238 (by decide) ?_
      refine lv_icmp_ge (tgt := 273) hx hb dL_acts_240 (by decide) (fun h => absurd h (by decide)) (fun _ => ?_)
      refine lv_aload_n hx hb dL_acts_243 rfl (lv_at hl 6 rfl) ?_
      refine lv_bipush (v := 10) hx hb dL_acts_244 (by decide) ?_
      refine lv_aload_n hx hb dL_acts_246 rfl (lv_at hl 5 rfl) ?_
      refine lv_iconst (v := 2) hx hb dL_acts_247 (by decide) ?_
      refine g_ialdK (D := (dC, dI)) (tys := tYS cI cB cO cL) (k := 2) hx hb hK hW 0 0 rfl rfl (by decide) (by decide) (by decide) dL_acts_248 ?_
      refine tp_i (show (g 2) = nI Mn from hD.1.eM) ?_
      refine lv_imul hx hb dL_acts_249 ?_
      refine tp_i (show ((10 : Int32) * (nI Mn)) = nI (10 * Mn) from pk_mul 10 Mn) ?_
      refine lv_iload hx hb dL_acts_250 (lv_at hl 0 rfl) ?_
      refine lv_iadd hx hb dL_acts_252 ?_
      refine tp_i (show ((nI (10 * Mn)) + (6 : Int32)) = nI (10 * Mn + 6) from nI_add (10 * Mn) 6) ?_
      refine lv_iload hx hb dL_acts_253 (lv_at hl 0 rfl) ?_
      refine lv_bipush (v := 6) hx hb dL_acts_255 (by decide) ?_
      refine lv_icmp_ge (tgt := 264) hx hb dL_acts_257 (by decide) (fun _ => ?_) (fun h => absurd h (by decide))
      refine lv_ldc (v := (-1000000000)) hx hb hown (hts (.constant RL 23 (-1000000000)) (gTt tw462)) dL_acts_264 ?_
      refine o_iast (D := (dC, dI)) (tys := tYS cI cB cO cL) (k := 10 * Mn + 6) hx hb hK hG hI hW hS rfl 1 0 rfl rfl (nI_clamp (by omega)) (nI_pos (by omega)) (by omega) dL_acts_266 (fun H locs hI hW hS => ?_)
      obtain ⟨p6, e_p6⟩ : ∃ z9 : Nat → Int32, z9 = upd p5 (10 * Mn + 6) (-1000000000) := ⟨_, rfl⟩
      have hW : va_P (dC, dI) vwCl (arW qg qm qw cI g p6 w) H := by rw [e_p6]; exact hW
      refine lv_iinc (v := 7) (lv' := [(9, .int 7), (8, .int y9), (7, .int x9), (5, .int (nI vn)), (0, .ref (qk 0)), (1, .ref (qg 0)), (2, .ref (qm 0)), (3, .ref (qw 0)), (4, .int z)]) hx hb dL_acts_267 hl (k := 0) rfl (by decide) (by decide) rfl (fun ls hl => ?_)
      refine lv_goto (tgt := 236) hx hb dL_acts_270 (by decide) ?_
      refine lv_iload hx hb dL_acts_236 (lv_at hl 0 rfl) ?_
      refine lv_bipush (v := 10) hx hb dL_acts_238 (by decide) ?_
      refine lv_icmp_ge (tgt := 273) hx hb dL_acts_240 (by decide) (fun h => absurd h (by decide)) (fun _ => ?_)
      refine lv_aload_n hx hb dL_acts_243 rfl (lv_at hl 6 rfl) ?_
      refine lv_bipush (v := 10) hx hb dL_acts_244 (by decide) ?_
      refine lv_aload_n hx hb dL_acts_246 rfl (lv_at hl 5 rfl) ?_
      refine lv_iconst (v := 2) hx hb dL_acts_247 (by decide) ?_
      refine g_ialdK (D := (dC, dI)) (tys := tYS cI cB cO cL) (k := 2) hx hb hK hW 0 0 rfl rfl (by decide) (by decide) (by decide) dL_acts_248 ?_
      refine tp_i (show (g 2) = nI Mn from hD.1.eM) ?_
      refine lv_imul hx hb dL_acts_249 ?_
      refine tp_i (show ((10 : Int32) * (nI Mn)) = nI (10 * Mn) from pk_mul 10 Mn) ?_
      refine lv_iload hx hb dL_acts_250 (lv_at hl 0 rfl) ?_
      refine lv_iadd hx hb dL_acts_252 ?_
      refine tp_i (show ((nI (10 * Mn)) + (7 : Int32)) = nI (10 * Mn + 7) from nI_add (10 * Mn) 7) ?_
      refine lv_iload hx hb dL_acts_253 (lv_at hl 0 rfl) ?_
      refine lv_bipush (v := 6) hx hb dL_acts_255 (by decide) ?_
      refine lv_icmp_ge (tgt := 264) hx hb dL_acts_257 (by decide) (fun _ => ?_) (fun h => absurd h (by decide))
      refine lv_ldc (v := (-1000000000)) hx hb hown (hts (.constant RL 23 (-1000000000)) (gTt tw462)) dL_acts_264 ?_
      refine o_iast (D := (dC, dI)) (tys := tYS cI cB cO cL) (k := 10 * Mn + 7) hx hb hK hG hI hW hS rfl 1 0 rfl rfl (nI_clamp (by omega)) (nI_pos (by omega)) (by omega) dL_acts_266 (fun H locs hI hW hS => ?_)
      obtain ⟨p7, e_p7⟩ : ∃ z9 : Nat → Int32, z9 = upd p6 (10 * Mn + 7) (-1000000000) := ⟨_, rfl⟩
      have hW : va_P (dC, dI) vwCl (arW qg qm qw cI g p7 w) H := by rw [e_p7]; exact hW
      refine lv_iinc (v := 8) (lv' := [(9, .int 8), (8, .int y9), (7, .int x9), (5, .int (nI vn)), (0, .ref (qk 0)), (1, .ref (qg 0)), (2, .ref (qm 0)), (3, .ref (qw 0)), (4, .int z)]) hx hb dL_acts_267 hl (k := 0) rfl (by decide) (by decide) rfl (fun ls hl => ?_)
      refine lv_goto (tgt := 236) hx hb dL_acts_270 (by decide) ?_
      refine lv_iload hx hb dL_acts_236 (lv_at hl 0 rfl) ?_
      refine lv_bipush (v := 10) hx hb dL_acts_238 (by decide) ?_
      refine lv_icmp_ge (tgt := 273) hx hb dL_acts_240 (by decide) (fun h => absurd h (by decide)) (fun _ => ?_)
      refine lv_aload_n hx hb dL_acts_243 rfl (lv_at hl 6 rfl) ?_
      refine lv_bipush (v := 10) hx hb dL_acts_244 (by decide) ?_
      refine lv_aload_n hx hb dL_acts_246 rfl (lv_at hl 5 rfl) ?_
      refine lv_iconst (v := 2) hx hb dL_acts_247 (by decide) ?_
      refine g_ialdK (D := (dC, dI)) (tys := tYS cI cB cO cL) (k := 2) hx hb hK hW 0 0 rfl rfl (by decide) (by decide) (by decide) dL_acts_248 ?_
      refine tp_i (show (g 2) = nI Mn from hD.1.eM) ?_
      refine lv_imul hx hb dL_acts_249 ?_
      refine tp_i (show ((10 : Int32) * (nI Mn)) = nI (10 * Mn) from pk_mul 10 Mn) ?_
      refine lv_iload hx hb dL_acts_250 (lv_at hl 0 rfl) ?_
      refine lv_iadd hx hb dL_acts_252 ?_
      refine tp_i (show ((nI (10 * Mn)) + (8 : Int32)) = nI (10 * Mn + 8) from nI_add (10 * Mn) 8) ?_
      refine lv_iload hx hb dL_acts_253 (lv_at hl 0 rfl) ?_
      refine lv_bipush (v := 6) hx hb dL_acts_255 (by decide) ?_
      refine lv_icmp_ge (tgt := 264) hx hb dL_acts_257 (by decide) (fun _ => ?_) (fun h => absurd h (by decide))
      refine lv_ldc (v := (-1000000000)) hx hb hown (hts (.constant RL 23 (-1000000000)) (gTt tw462)) dL_acts_264 ?_
      refine o_iast (D := (dC, dI)) (tys := tYS cI cB cO cL) (k := 10 * Mn + 8) hx hb hK hG hI hW hS rfl 1 0 rfl rfl (nI_clamp (by omega)) (nI_pos (by omega)) (by omega) dL_acts_266 (fun H locs hI hW hS => ?_)
      obtain ⟨p8, e_p8⟩ : ∃ z9 : Nat → Int32, z9 = upd p7 (10 * Mn + 8) (-1000000000) := ⟨_, rfl⟩
      have hW : va_P (dC, dI) vwCl (arW qg qm qw cI g p8 w) H := by rw [e_p8]; exact hW
      refine lv_iinc (v := 9) (lv' := [(9, .int 9), (8, .int y9), (7, .int x9), (5, .int (nI vn)), (0, .ref (qk 0)), (1, .ref (qg 0)), (2, .ref (qm 0)), (3, .ref (qw 0)), (4, .int z)]) hx hb dL_acts_267 hl (k := 0) rfl (by decide) (by decide) rfl (fun ls hl => ?_)
      refine lv_goto (tgt := 236) hx hb dL_acts_270 (by decide) ?_
      refine lv_iload hx hb dL_acts_236 (lv_at hl 0 rfl) ?_
      refine lv_bipush (v := 10) hx hb dL_acts_238 (by decide) ?_
      refine lv_icmp_ge (tgt := 273) hx hb dL_acts_240 (by decide) (fun h => absurd h (by decide)) (fun _ => ?_)
      refine lv_aload_n hx hb dL_acts_243 rfl (lv_at hl 6 rfl) ?_
      refine lv_bipush (v := 10) hx hb dL_acts_244 (by decide) ?_
      refine lv_aload_n hx hb dL_acts_246 rfl (lv_at hl 5 rfl) ?_
      refine lv_iconst (v := 2) hx hb dL_acts_247 (by decide) ?_
      refine g_ialdK (D := (dC, dI)) (tys := tYS cI cB cO cL) (k := 2) hx hb hK hW 0 0 rfl rfl (by decide) (by decide) (by decide) dL_acts_248 ?_
      refine tp_i (show (g 2) = nI Mn from hD.1.eM) ?_
      refine lv_imul hx hb dL_acts_249 ?_
      refine tp_i (show ((10 : Int32) * (nI Mn)) = nI (10 * Mn) from pk_mul 10 Mn) ?_
      refine lv_iload hx hb dL_acts_250 (lv_at hl 0 rfl) ?_
      refine lv_iadd hx hb dL_acts_252 ?_
      refine tp_i (show ((nI (10 * Mn)) + (9 : Int32)) = nI (10 * Mn + 9) from nI_add (10 * Mn) 9) ?_
      refine lv_iload hx hb dL_acts_253 (lv_at hl 0 rfl) ?_
      refine lv_bipush (v := 6) hx hb dL_acts_255 (by decide) ?_
      refine lv_icmp_ge (tgt := 264) hx hb dL_acts_257 (by decide) (fun _ => ?_) (fun h => absurd h (by decide))
      refine lv_ldc (v := (-1000000000)) hx hb hown (hts (.constant RL 23 (-1000000000)) (gTt tw462)) dL_acts_264 ?_
      refine o_iast (D := (dC, dI)) (tys := tYS cI cB cO cL) (k := 10 * Mn + 9) hx hb hK hG hI hW hS rfl 1 0 rfl rfl (nI_clamp (by omega)) (nI_pos (by omega)) (by omega) dL_acts_266 (fun H locs hI hW hS => ?_)
      obtain ⟨p9, e_p9⟩ : ∃ z9 : Nat → Int32, z9 = upd p8 (10 * Mn + 9) (-1000000000) := ⟨_, rfl⟩
      have hW : va_P (dC, dI) vwCl (arW qg qm qw cI g p9 w) H := by rw [e_p9]; exact hW
      refine lv_iinc (v := 10) (lv' := [(9, .int 10), (8, .int y9), (7, .int x9), (5, .int (nI vn)), (0, .ref (qk 0)), (1, .ref (qg 0)), (2, .ref (qm 0)), (3, .ref (qw 0)), (4, .int z)]) hx hb dL_acts_267 hl (k := 0) rfl (by decide) (by decide) rfl (fun ls hl => ?_)
      refine lv_goto (tgt := 236) hx hb dL_acts_270 (by decide) ?_
      refine lv_iload hx hb dL_acts_236 (lv_at hl 0 rfl) ?_
      refine lv_bipush (v := 10) hx hb dL_acts_238 (by decide) ?_
      refine lv_icmp_ge (tgt := 273) hx hb dL_acts_240 (by decide) (fun _ => ?_) (fun h => absurd h (by decide))
      refine lv_aload_n hx hb dL_acts_273 rfl (lv_at hl 6 rfl) ?_
      refine lv_bipush (v := 10) hx hb dL_acts_274 (by decide) ?_
      refine lv_aload_n hx hb dL_acts_276 rfl (lv_at hl 5 rfl) ?_
      refine lv_iconst (v := 2) hx hb dL_acts_277 (by decide) ?_
      refine g_ialdK (D := (dC, dI)) (tys := tYS cI cB cO cL) (k := 2) hx hb hK hW 0 0 rfl rfl (by decide) (by decide) (by decide) dL_acts_278 ?_
      refine tp_i (show (g 2) = nI Mn from hD.1.eM) ?_
      refine lv_imul hx hb dL_acts_279 ?_
      refine tp_i (show ((10 : Int32) * (nI Mn)) = nI (10 * Mn) from pk_mul 10 Mn) ?_
      refine lv_iload hx hb dL_acts_280 (lv_at hl 2 rfl) ?_
      refine o_iast (D := (dC, dI)) (tys := tYS cI cB cO cL) (k := 10 * Mn) hx hb hK hG hI hW hS rfl 1 0 rfl rfl (nI_clamp (by omega)) (nI_pos (by omega)) (by omega) dL_acts_282 (fun H locs hI hW hS => ?_)
      obtain ⟨pa, e_pa⟩ : ∃ z9 : Nat → Int32, z9 = upd p9 (10 * Mn) x9 := ⟨_, rfl⟩
      have hW : va_P (dC, dI) vwCl (arW qg qm qw cI g pa w) H := by rw [e_pa]; exact hW
      refine lv_aload_n hx hb dL_acts_283 rfl (lv_at hl 6 rfl) ?_
      refine lv_bipush (v := 10) hx hb dL_acts_284 (by decide) ?_
      refine lv_aload_n hx hb dL_acts_286 rfl (lv_at hl 5 rfl) ?_
      refine lv_iconst (v := 2) hx hb dL_acts_287 (by decide) ?_
      refine g_ialdK (D := (dC, dI)) (tys := tYS cI cB cO cL) (k := 2) hx hb hK hW 0 0 rfl rfl (by decide) (by decide) (by decide) dL_acts_288 ?_
      refine tp_i (show (g 2) = nI Mn from hD.1.eM) ?_
      refine lv_imul hx hb dL_acts_289 ?_
      refine tp_i (show ((10 : Int32) * (nI Mn)) = nI (10 * Mn) from pk_mul 10 Mn) ?_
      refine lv_iconst (v := 1) hx hb dL_acts_290 (by decide) ?_
      refine lv_iadd hx hb dL_acts_291 ?_
      refine tp_i (show ((nI (10 * Mn)) + (1 : Int32)) = nI (10 * Mn + 1) from nI_add (10 * Mn) 1) ?_
      refine lv_iload hx hb dL_acts_292 (lv_at hl 1 rfl) ?_
      refine o_iast (D := (dC, dI)) (tys := tYS cI cB cO cL) (k := 10 * Mn + 1) hx hb hK hG hI hW hS rfl 1 0 rfl rfl (nI_clamp (by omega)) (nI_pos (by omega)) (by omega) dL_acts_294 (fun H locs hI hW hS => ?_)
      obtain ⟨pb, e_pb⟩ : ∃ z9 : Nat → Int32, z9 = upd pa (10 * Mn + 1) y9 := ⟨_, rfl⟩
      have hW : va_P (dC, dI) vwCl (arW qg qm qw cI g pb w) H := by rw [e_pb]; exact hW
      refine lv_aload_n hx hb dL_acts_295 rfl (lv_at hl 5 rfl) ?_
      refine lv_iconst (v := 2) hx hb dL_acts_296 (by decide) ?_
      refine lv_dup2_11 hx hb dL_acts_297 rfl rfl ?_
      refine g_ialdK (D := (dC, dI)) (tys := tYS cI cB cO cL) (k := 2) hx hb hK hW 0 0 rfl rfl (by decide) (by decide) (by decide) dL_acts_298 ?_
      refine tp_i (show (g 2) = nI Mn from hD.1.eM) ?_
      refine lv_iconst (v := 1) hx hb dL_acts_299 (by decide) ?_
      refine lv_iadd hx hb dL_acts_300 ?_
      refine tp_i (show ((nI Mn) + (1 : Int32)) = nI (Mn + 1) from nI_add Mn 1) ?_
      refine o_iast (D := (dC, dI)) (tys := tYS cI cB cO cL) (k := 2) hx hb hK hG hI hW hS rfl 0 0 rfl rfl (by decide) (by decide) (by decide) dL_acts_301 (fun H locs hI hW hS => ?_)
      obtain ⟨ga, e_ga⟩ : ∃ z9 : Nat → Int32, z9 = upd g 2 (nI (Mn + 1)) := ⟨_, rfl⟩
      have hW : va_P (dC, dI) vwCl (arW qg qm qw cI ga pb w) H := by rw [e_ga]; exact hW
      refine lv_aload_n hx hb dL_acts_302 rfl (lv_at hl 4 rfl) ?_
      refine lv_iload hx hb dL_acts_303 (lv_at hl 2 rfl) ?_
      refine lv_iload hx hb dL_acts_305 (lv_at hl 1 rfl) ?_
      obtain ⟨b1, u1, hf, hk, hU1, hD1⟩ := mic_ok (g' := ga) (m' := pb) (x := x9) (y := y9) hD hU s9 kk hM4 ⟨by omega, by omega⟩ ⟨by omega, by omega⟩ (show ga 2 = nI (Mn + 1) from by rw [e_ga, upd_eq]) (fun q hq => by rw [e_ga, upd_ne _ _ (show q ≠ 2 by omega)]) (show pb (10 * Mn) = x9 from by rw [e_pb, upd_ne _ _ (show 10 * Mn ≠ 10 * Mn + 1 by omega), e_pa, upd_eq]) (show pb (10 * Mn + 1) = y9 from by rw [e_pb, upd_eq]) (fun c h2 h6 => by
          have : c = 2 ∨ c = 3 ∨ c = 4 ∨ c = 5 := by omega
          rcases this with e | e | e | e <;> rw [e]
          · rw [e_pb, upd_ne _ _ (show 10 * Mn + 2 ≠ 10 * Mn + 1 by omega), e_pa, upd_ne _ _ (show 10 * Mn + 2 ≠ 10 * Mn by omega), e_p9, upd_ne _ _ (show 10 * Mn + 2 ≠ 10 * Mn + 9 by omega), e_p8, upd_ne _ _ (show 10 * Mn + 2 ≠ 10 * Mn + 8 by omega), e_p7, upd_ne _ _ (show 10 * Mn + 2 ≠ 10 * Mn + 7 by omega), e_p6, upd_ne _ _ (show 10 * Mn + 2 ≠ 10 * Mn + 6 by omega), e_p5, upd_ne _ _ (show 10 * Mn + 2 ≠ 10 * Mn + 5 by omega), e_p4, upd_ne _ _ (show 10 * Mn + 2 ≠ 10 * Mn + 4 by omega), e_p3, upd_ne _ _ (show 10 * Mn + 2 ≠ 10 * Mn + 3 by omega), e_p2, upd_eq]
          · rw [e_pb, upd_ne _ _ (show 10 * Mn + 3 ≠ 10 * Mn + 1 by omega), e_pa, upd_ne _ _ (show 10 * Mn + 3 ≠ 10 * Mn by omega), e_p9, upd_ne _ _ (show 10 * Mn + 3 ≠ 10 * Mn + 9 by omega), e_p8, upd_ne _ _ (show 10 * Mn + 3 ≠ 10 * Mn + 8 by omega), e_p7, upd_ne _ _ (show 10 * Mn + 3 ≠ 10 * Mn + 7 by omega), e_p6, upd_ne _ _ (show 10 * Mn + 3 ≠ 10 * Mn + 6 by omega), e_p5, upd_ne _ _ (show 10 * Mn + 3 ≠ 10 * Mn + 5 by omega), e_p4, upd_ne _ _ (show 10 * Mn + 3 ≠ 10 * Mn + 4 by omega), e_p3, upd_eq]
          · rw [e_pb, upd_ne _ _ (show 10 * Mn + 4 ≠ 10 * Mn + 1 by omega), e_pa, upd_ne _ _ (show 10 * Mn + 4 ≠ 10 * Mn by omega), e_p9, upd_ne _ _ (show 10 * Mn + 4 ≠ 10 * Mn + 9 by omega), e_p8, upd_ne _ _ (show 10 * Mn + 4 ≠ 10 * Mn + 8 by omega), e_p7, upd_ne _ _ (show 10 * Mn + 4 ≠ 10 * Mn + 7 by omega), e_p6, upd_ne _ _ (show 10 * Mn + 4 ≠ 10 * Mn + 6 by omega), e_p5, upd_ne _ _ (show 10 * Mn + 4 ≠ 10 * Mn + 5 by omega), e_p4, upd_eq]
          · rw [e_pb, upd_ne _ _ (show 10 * Mn + 5 ≠ 10 * Mn + 1 by omega), e_pa, upd_ne _ _ (show 10 * Mn + 5 ≠ 10 * Mn by omega), e_p9, upd_ne _ _ (show 10 * Mn + 5 ≠ 10 * Mn + 9 by omega), e_p8, upd_ne _ _ (show 10 * Mn + 5 ≠ 10 * Mn + 8 by omega), e_p7, upd_ne _ _ (show 10 * Mn + 5 ≠ 10 * Mn + 7 by omega), e_p6, upd_ne _ _ (show 10 * Mn + 5 ≠ 10 * Mn + 6 by omega), e_p5, upd_eq]) (fun c h6 h10 => by
          have : c = 6 ∨ c = 7 ∨ c = 8 ∨ c = 9 := by omega
          rcases this with e | e | e | e <;> rw [e]
          · rw [e_pb, upd_ne _ _ (show 10 * Mn + 6 ≠ 10 * Mn + 1 by omega), e_pa, upd_ne _ _ (show 10 * Mn + 6 ≠ 10 * Mn by omega), e_p9, upd_ne _ _ (show 10 * Mn + 6 ≠ 10 * Mn + 9 by omega), e_p8, upd_ne _ _ (show 10 * Mn + 6 ≠ 10 * Mn + 8 by omega), e_p7, upd_ne _ _ (show 10 * Mn + 6 ≠ 10 * Mn + 7 by omega), e_p6, upd_eq]
          · rw [e_pb, upd_ne _ _ (show 10 * Mn + 7 ≠ 10 * Mn + 1 by omega), e_pa, upd_ne _ _ (show 10 * Mn + 7 ≠ 10 * Mn by omega), e_p9, upd_ne _ _ (show 10 * Mn + 7 ≠ 10 * Mn + 9 by omega), e_p8, upd_ne _ _ (show 10 * Mn + 7 ≠ 10 * Mn + 8 by omega), e_p7, upd_eq]
          · rw [e_pb, upd_ne _ _ (show 10 * Mn + 8 ≠ 10 * Mn + 1 by omega), e_pa, upd_ne _ _ (show 10 * Mn + 8 ≠ 10 * Mn by omega), e_p9, upd_ne _ _ (show 10 * Mn + 8 ≠ 10 * Mn + 9 by omega), e_p8, upd_eq]
          · rw [e_pb, upd_ne _ _ (show 10 * Mn + 9 ≠ 10 * Mn + 1 by omega), e_pa, upd_ne _ _ (show 10 * Mn + 9 ≠ 10 * Mn by omega), e_p9, upd_eq]) (fun q hq => by rw [e_pb, upd_ne _ _ (show q ≠ 10 * Mn + 1 by omega), e_pa, upd_ne _ _ (show q ≠ 10 * Mn by omega), e_p9, upd_ne _ _ (show q ≠ 10 * Mn + 9 by omega), e_p8, upd_ne _ _ (show q ≠ 10 * Mn + 8 by omega), e_p7, upd_ne _ _ (show q ≠ 10 * Mn + 7 by omega), e_p6, upd_ne _ _ (show q ≠ 10 * Mn + 6 by omega), e_p5, upd_ne _ _ (show q ≠ 10 * Mn + 5 by omega), e_p4, upd_ne _ _ (show q ≠ 10 * Mn + 4 by omega), e_p3, upd_ne _ _ (show q ≠ 10 * Mn + 3 by omega), e_p2, upd_ne _ _ (show q ≠ 10 * Mn + 2 by omega), e_p1, upd_ne _ _ (show q ≠ 10 * Mn + 1 by omega), e_p0, upd_ne _ _ (show q ≠ 10 * Mn by omega)])
      have f4 := And.intro hf hk
      refine w_mics (R := rL_acts) (cells := 0) (slots := 0) (wo := arW qg qm qw cI ga pb w) hfl hx hb hml hown hts hK hF hC hN hG hA rfl hN0 hS hI hW f4.1 f4.2 (Or.inl rfl) ⟨Nat.le_of_ble_eq_true rfl, Nat.le_of_ble_eq_true rfl⟩ (nI Mn) (rfl) (Nat.le_of_ble_eq_true rfl) hl.1 dL_acts_307 ⟨(by omega : 0 + 4 ≤ 5), (by omega : 0 + 24 ≤ 84)⟩ (fun H locs hI hW hS => ?_)
      refine lv_aload_n hx hb dL_acts_310 rfl (lv_at hl 5 rfl) ?_
      refine lv_iconst (v := 2) hx hb dL_acts_311 (by decide) ?_
      refine g_ialdK (D := (dC, dI)) (tys := tYS cI cB cO cL) (k := 2) hx hb hK hW 0 0 rfl rfl (by decide) (by decide) (by decide) dL_acts_312 ?_
      refine tp_i (show (ga 2) = nI (Mn + 1) from by rw [e_ga, upd_eq]) ?_
      refine lv_iconst (v := 1) hx hb dL_acts_313 (by decide) ?_
      refine lv_isub hx hb dL_acts_314 ?_
      refine tp_i (show ((nI (Mn + 1)) - (1 : Int32)) = nI Mn from nI_pred (Mn)) ?_
      refine lv_icmp_ne (tgt := 322) hx hb dL_acts_315 (by decide) (fun h => absurd (rfl) h) (fun _ => ?_)
      refine lv_iconst (v := 1) hx hb dL_acts_318 (by decide) ?_
      refine lv_goto (tgt := 323) hx hb dL_acts_319 (by decide) ?_
      exact hend 323 _ _ _ _ _ (b1, (pX8_outdate s9), u1, tr, te) ga pb w ⟨Cn, Rn, Mn + 1, Wn, Nn, hD1, SVI_old _ _ _, hU1⟩ hI hW hS (by omega) (by omega) dL_acts_323
  have K324 : ∀ ls : Array Slot, lv_has ls 20 [(5, .int (nI vn)), (0, .ref (qk 0)), (1, .ref (qg 0)), (2, .ref (qm 0)), (3, .ref (qw 0)), (4, .int z)] → W p l e rL_acts s m ([.ref (qk 0), .ref (qg 0), .ref (qm 0), .ref (qw 0), .int z] : List Value).toArray below meth c s.heap [] (0) (0) QQ (F0 m 324 ls []) := by
    intro ls hl
    refine lv_aload_n hx hb dL_acts_324 rfl (lv_at hl 2 rfl) ?_
    refine lv_iconst (v := 3) hx hb dL_acts_325 (by decide) ?_
    refine g_ialdK (D := (dC, dI)) (tys := tYS cI cB cO cL) (k := 3) hx hb hK hW 0 0 rfl rfl (by decide) (by decide) (by decide) dL_acts_326 ?_
    refine tp_i (show (g 3) = nI Wn from hD.1.eW) ?_
    refine lv_iconst (v := 3) hx hb dL_acts_327 (by decide) ?_
    by_cases h9 : Wn = 3
    · refine lv_icmp_ne (tgt := 349) hx hb dL_acts_328 (by decide) (fun h => absurd (show nI (Wn) = (3 : Int32) by rw [h9]; rfl) h) (fun _ => ?_)
      refine lv_aload_n hx hb dL_acts_331 rfl (lv_at hl 1 rfl) ?_
      refine lv_iconst (v := 2) hx hb dL_acts_332 (by decide) ?_
      refine lv_iconst (v := 0) hx hb dL_acts_333 (by decide) ?_
      refine lv_iconst (v := 0) hx hb dL_acts_334 (by decide) ?_
      have f5 := wall_no b s9 u kk
      refine w_walls (R := rL_acts) (cells := 0) (slots := 0) (wo := arW qg qm qw cI g m9 w) hfl hx hb hml hown hts hK hF hC hN hG hA rfl hN0 hS hI hW f5.1 f5.2 (Or.inr (Or.inl rfl)) ⟨Nat.le_of_ble_eq_true rfl, Nat.le_of_ble_eq_true rfl⟩ ((-100000002)) (rfl) (Nat.le_of_ble_eq_true rfl) hl.1 dL_acts_335 ⟨(by omega : 0 + 4 ≤ 5), (by omega : 0 + 24 ≤ 84)⟩ (fun H locs hI hW hS => ?_)
      refine lv_ldc (v := (-100000002)) hx hb hown (hts (.constant RL 48 (-100000002)) (gTt tw443)) dL_acts_338 ?_
      refine lv_icmp_ne (tgt := 347) hx hb dL_acts_340 (by decide) (fun h => absurd (rfl) h) (fun _ => ?_)
      refine lv_iconst (v := 1) hx hb dL_acts_343 (by decide) ?_
      refine lv_goto (tgt := 348) hx hb dL_acts_344 (by decide) ?_
      exact hend 348 _ _ _ _ _ (b, s9, u, tr, te) g m9 w ⟨Cn, Rn, Mn, Wn, Nn, hD, hV, hU⟩ hI hW hS (by omega) (by omega) dL_acts_348
    · refine lv_icmp_ne (tgt := 349) hx hb dL_acts_328 (by decide) (fun _ => ?_) (fun h => absurd ((nI_eq (a := Wn) (b := 3) (by omega) (by decide)).mp h) (by omega))
      have hW3 : Wn < 3 := by omega
      obtain ⟨c9, hc9, hcr⟩ : ∃ c : Int32, c = (if vn % 3 = 0 then nI (vn / 2 % 4001) - nI 1000 else nI (vn / 2 % 1300) - nI 100) ∧ rg c (-1000) 3000 := by
        refine ⟨_, rfl, ?_⟩
        by_cases h3 : vn % 3 = 0
        · rw [if_pos h3]
          have e := nI_off (j := vn / 2 % 4001) (a := 1000) (by omega) (by decide)
          exact ⟨by omega, by omega⟩
        · rw [if_neg h3]
          have e := nI_off (j := vn / 2 % 1300) (a := 100) (by omega) (by decide)
          exact ⟨by omega, by omega⟩
      obtain ⟨l9, hl9, hlr⟩ : ∃ n : Nat, n = (if vn % 5 = 0 then vn / 5 % 101 else vn / 5 % 40) ∧ n ≤ 100 := by
        refine ⟨_, rfl, ?_⟩
        by_cases h5 : vn % 5 = 0
        · rw [if_pos h5]
          omega
        · rw [if_neg h5]
          omega
      refine lv_iconst (v := 3) hx hb dL_acts_349 (by decide) ?_
      refine lv_aload_n hx hb dL_acts_350 rfl (lv_at hl 2 rfl) ?_
      refine lv_iconst (v := 3) hx hb dL_acts_351 (by decide) ?_
      refine g_ialdK (D := (dC, dI)) (tys := tYS cI cB cO cL) (k := 3) hx hb hK hW 0 0 rfl rfl (by decide) (by decide) (by decide) dL_acts_352 ?_
      refine tp_i (show (g 3) = nI Wn from hD.1.eW) ?_
      refine lv_imul hx hb dL_acts_353 ?_
      refine tp_i (show ((3 : Int32) * (nI Wn)) = nI (3 * Wn) from pk_mul 3 Wn) ?_
      refine lv_istore (lv' := [(9, .int (nI (3 * Wn))), (5, .int (nI vn)), (0, .ref (qk 0)), (1, .ref (qg 0)), (2, .ref (qm 0)), (3, .ref (qw 0)), (4, .int z)]) hx hb dL_acts_354 hl (by decide) rfl (fun ls hl => ?_)
      refine lv_aload_n hx hb dL_acts_356 rfl (lv_at hl 5 rfl) ?_
      refine lv_iload hx hb dL_acts_357 (lv_at hl 0 rfl) ?_
      refine lv_iload hx hb dL_acts_359 (lv_at hl 1 rfl) ?_
      refine lv_iconst (v := 2) hx hb dL_acts_361 (by decide) ?_
      refine lv_irem hx hb dL_acts_362 (by decide) ?_
      refine tp_i (show ((nI vn) - (nI vn) / (2 : Int32) * (2 : Int32)) = nI (vn % 2) from nx_rem (a := vn) (d := 2) (by omega) (by omega) (by omega)) ?_
      refine o_iast (D := (dC, dI)) (tys := tYS cI cB cO cL) (k := 3 * Wn) hx hb hK hG hI hW hS rfl 2 0 rfl rfl (nI_clamp (by omega)) (nI_pos (by omega)) (by omega) dL_acts_363 (fun H locs hI hW hS => ?_)
      obtain ⟨wa, e_wa⟩ : ∃ z9 : Nat → Int32, z9 = upd w (3 * Wn) (nI (vn % 2)) := ⟨_, rfl⟩
      have hW : va_P (dC, dI) vwCl (arW qg qm qw cI g m9 wa) H := by rw [e_wa]; exact hW
      refine lv_aload_n hx hb dL_acts_364 rfl (lv_at hl 5 rfl) ?_
      refine lv_iload hx hb dL_acts_365 (lv_at hl 0 rfl) ?_
      refine lv_iconst (v := 1) hx hb dL_acts_367 (by decide) ?_
      refine lv_iadd hx hb dL_acts_368 ?_
      refine tp_i (show ((nI (3 * Wn)) + (1 : Int32)) = nI (3 * Wn + 1) from nI_add (3 * Wn) 1) ?_
      refine lv_iload hx hb dL_acts_369 (lv_at hl 1 rfl) ?_
      refine lv_iconst (v := 2) hx hb dL_acts_371 (by decide) ?_
      refine lv_idiv hx hb dL_acts_372 (by decide) ?_
      refine tp_i (show ((nI vn) / (2 : Int32)) = nI (vn / 2) from nx_div (a := vn) (d := 2) (by omega) (by omega) (by omega)) ?_
      refine lv_iload hx hb dL_acts_373 (lv_at hl 1 rfl) ?_
      refine lv_iconst (v := 3) hx hb dL_acts_375 (by decide) ?_
      refine lv_irem hx hb dL_acts_376 (by decide) ?_
      refine tp_i (show ((nI vn) - (nI vn) / (3 : Int32) * (3 : Int32)) = nI (vn % 3) from nx_rem (a := vn) (d := 3) (by omega) (by omega) (by omega)) ?_
      have J406 : ∀ ls : Array Slot, lv_has ls 20 [(9, .int (nI (3 * Wn))), (5, .int (nI vn)), (0, .ref (qk 0)), (1, .ref (qg 0)), (2, .ref (qm 0)), (3, .ref (qw 0)), (4, .int z)] → W p l e rL_acts s m ([.ref (qk 0), .ref (qg 0), .ref (qm 0), .ref (qw 0), .int z] : List Value).toArray below meth c H locs (0) (0) QQ (F0 m 406 ls [.int c9, .int (nI (3 * Wn + 1)), .ref (qw 0)]) := by
        intro ls hl
        refine o_iast (D := (dC, dI)) (tys := tYS cI cB cO cL) (k := 3 * Wn + 1) hx hb hK hG hI hW hS rfl 2 0 rfl rfl (nI_clamp (by omega)) (nI_pos (by omega)) (by omega) dL_acts_406 (fun H locs hI hW hS => ?_)
        obtain ⟨wb, e_wb⟩ : ∃ z9 : Nat → Int32, z9 = upd wa (3 * Wn + 1) c9 := ⟨_, rfl⟩
        have hW : va_P (dC, dI) vwCl (arW qg qm qw cI g m9 wb) H := by rw [e_wb]; exact hW
        refine lv_aload_n hx hb dL_acts_407 rfl (lv_at hl 5 rfl) ?_
        refine lv_iload hx hb dL_acts_408 (lv_at hl 0 rfl) ?_
        refine lv_iconst (v := 2) hx hb dL_acts_410 (by decide) ?_
        refine lv_iadd hx hb dL_acts_411 ?_
        refine tp_i (show ((nI (3 * Wn)) + (2 : Int32)) = nI (3 * Wn + 2) from nI_add (3 * Wn) 2) ?_
        refine lv_iload hx hb dL_acts_412 (lv_at hl 1 rfl) ?_
        refine lv_iconst (v := 5) hx hb dL_acts_414 (by decide) ?_
        refine lv_idiv hx hb dL_acts_415 (by decide) ?_
        refine tp_i (show ((nI vn) / (5 : Int32)) = nI (vn / 5) from nx_div (a := vn) (d := 5) (by omega) (by omega) (by omega)) ?_
        refine lv_iload hx hb dL_acts_416 (lv_at hl 1 rfl) ?_
        refine lv_iconst (v := 5) hx hb dL_acts_418 (by decide) ?_
        refine lv_irem hx hb dL_acts_419 (by decide) ?_
        refine tp_i (show ((nI vn) - (nI vn) / (5 : Int32) * (5 : Int32)) = nI (vn % 5) from nx_rem (a := vn) (d := 5) (by omega) (by omega) (by omega)) ?_
        have J431 : ∀ ls : Array Slot, lv_has ls 20 [(9, .int (nI (3 * Wn))), (5, .int (nI vn)), (0, .ref (qk 0)), (1, .ref (qg 0)), (2, .ref (qm 0)), (3, .ref (qw 0)), (4, .int z)] → W p l e rL_acts s m ([.ref (qk 0), .ref (qg 0), .ref (qm 0), .ref (qw 0), .int z] : List Value).toArray below meth c H locs (0) (0) QQ (F0 m 431 ls [.int (nI l9), .int (nI (3 * Wn + 2)), .ref (qw 0)]) := by
          intro ls hl
          refine o_iast (D := (dC, dI)) (tys := tYS cI cB cO cL) (k := 3 * Wn + 2) hx hb hK hG hI hW hS rfl 2 0 rfl rfl (nI_clamp (by omega)) (nI_pos (by omega)) (by omega) dL_acts_431 (fun H locs hI hW hS => ?_)
          obtain ⟨wc, e_wc⟩ : ∃ z9 : Nat → Int32, z9 = upd wb (3 * Wn + 2) (nI l9) := ⟨_, rfl⟩
          have hW : va_P (dC, dI) vwCl (arW qg qm qw cI g m9 wc) H := by rw [e_wc]; exact hW
          refine lv_aload_n hx hb dL_acts_432 rfl (lv_at hl 3 rfl) ?_
          refine lv_iconst (v := 3) hx hb dL_acts_433 (by decide) ?_
          refine lv_dup2_11 hx hb dL_acts_434 rfl rfl ?_
          refine g_ialdK (D := (dC, dI)) (tys := tYS cI cB cO cL) (k := 3) hx hb hK hW 0 0 rfl rfl (by decide) (by decide) (by decide) dL_acts_435 ?_
          refine tp_i (show (g 3) = nI Wn from hD.1.eW) ?_
          refine lv_iconst (v := 1) hx hb dL_acts_436 (by decide) ?_
          refine lv_iadd hx hb dL_acts_437 ?_
          refine tp_i (show ((nI Wn) + (1 : Int32)) = nI (Wn + 1) from nI_add Wn 1) ?_
          refine o_iast (D := (dC, dI)) (tys := tYS cI cB cO cL) (k := 3) hx hb hK hG hI hW hS rfl 0 0 rfl rfl (by decide) (by decide) (by decide) dL_acts_438 (fun H locs hI hW hS => ?_)
          obtain ⟨ga, e_ga⟩ : ∃ z9 : Nat → Int32, z9 = upd g 3 (nI (Wn + 1)) := ⟨_, rfl⟩
          have hW : va_P (dC, dI) vwCl (arW qg qm qw cI ga m9 wc) H := by rw [e_ga]; exact hW
          refine lv_aload_n hx hb dL_acts_439 rfl (lv_at hl 2 rfl) ?_
          refine lv_aload_n hx hb dL_acts_440 rfl (lv_at hl 5 rfl) ?_
          refine lv_iload hx hb dL_acts_441 (lv_at hl 0 rfl) ?_
          refine g_ialdK (D := (dC, dI)) (tys := tYS cI cB cO cL) (k := 3 * Wn) hx hb hK hW 2 0 rfl rfl (nI_clamp (by omega)) (nI_pos (by omega)) (by omega) dL_acts_443 ?_
          refine tp_i (show (wc (3 * Wn)) = nI (vn % 2) from by rw [e_wc, upd_ne _ _ (show 3 * Wn ≠ 3 * Wn + 2 by omega), e_wb, upd_ne _ _ (show 3 * Wn ≠ 3 * Wn + 1 by omega), e_wa, upd_eq]) ?_
          refine lv_aload_n hx hb dL_acts_444 rfl (lv_at hl 5 rfl) ?_
          refine lv_iload hx hb dL_acts_445 (lv_at hl 0 rfl) ?_
          refine lv_iconst (v := 1) hx hb dL_acts_447 (by decide) ?_
          refine lv_iadd hx hb dL_acts_448 ?_
          refine tp_i (show ((nI (3 * Wn)) + (1 : Int32)) = nI (3 * Wn + 1) from nI_add (3 * Wn) 1) ?_
          refine g_ialdK (D := (dC, dI)) (tys := tYS cI cB cO cL) (k := 3 * Wn + 1) hx hb hK hW 2 0 rfl rfl (nI_clamp (by omega)) (nI_pos (by omega)) (by omega) dL_acts_449 ?_
          refine tp_i (show (wc (3 * Wn + 1)) = c9 from by rw [e_wc, upd_ne _ _ (show 3 * Wn + 1 ≠ 3 * Wn + 2 by omega), e_wb, upd_eq]) ?_
          refine lv_aload_n hx hb dL_acts_450 rfl (lv_at hl 5 rfl) ?_
          refine lv_iload hx hb dL_acts_451 (lv_at hl 0 rfl) ?_
          refine lv_iconst (v := 2) hx hb dL_acts_453 (by decide) ?_
          refine lv_iadd hx hb dL_acts_454 ?_
          refine tp_i (show ((nI (3 * Wn)) + (2 : Int32)) = nI (3 * Wn + 2) from nI_add (3 * Wn) 2) ?_
          refine g_ialdK (D := (dC, dI)) (tys := tYS cI cB cO cL) (k := 3 * Wn + 2) hx hb hK hW 2 0 rfl rfl (nI_clamp (by omega)) (nI_pos (by omega)) (by omega) dL_acts_455 ?_
          refine tp_i (show (wc (3 * Wn + 2)) = nI l9 from by rw [e_wc, upd_eq]) ?_
          obtain ⟨b1, u1, hf, hk, hU1, hD1⟩ := wall_ok (g' := ga) (w' := wc) (a := nI (vn % 2)) (c := c9) (l := nI l9) hD hU s9 kk hW3 (ni01 (by omega)) hcr (rgN (z := 100) hlr) (show ga 3 = nI (Wn + 1) from by rw [e_ga, upd_eq]) (fun q hq => by rw [e_ga, upd_ne _ _ (show q ≠ 3 by omega)]) (show wc (3 * Wn) = nI (vn % 2) from by rw [e_wc, upd_ne _ _ (show 3 * Wn ≠ 3 * Wn + 2 by omega), e_wb, upd_ne _ _ (show 3 * Wn ≠ 3 * Wn + 1 by omega), e_wa, upd_eq]) (show wc (3 * Wn + 1) = c9 from by rw [e_wc, upd_ne _ _ (show 3 * Wn + 1 ≠ 3 * Wn + 2 by omega), e_wb, upd_eq]) (show wc (3 * Wn + 2) = nI l9 from by rw [e_wc, upd_eq]) (fun q hq => by rw [e_wc, upd_ne _ _ (show q ≠ 3 * Wn + 2 by omega), e_wb, upd_ne _ _ (show q ≠ 3 * Wn + 1 by omega), e_wa, upd_ne _ _ (show q ≠ 3 * Wn by omega)])
          have f6 := And.intro hf hk
          refine w_walls (R := rL_acts) (cells := 0) (slots := 0) (wo := arW qg qm qw cI ga m9 wc) hfl hx hb hml hown hts hK hF hC hN hG hA rfl hN0 hS hI hW f6.1 f6.2 (Or.inl rfl) ⟨Nat.le_of_ble_eq_true rfl, Nat.le_of_ble_eq_true rfl⟩ (nI Wn) (rfl) (Nat.le_of_ble_eq_true rfl) hl.1 dL_acts_456 ⟨(by omega : 0 + 4 ≤ 5), (by omega : 0 + 24 ≤ 84)⟩ (fun H locs hI hW hS => ?_)
          refine lv_aload_n hx hb dL_acts_459 rfl (lv_at hl 3 rfl) ?_
          refine lv_iconst (v := 3) hx hb dL_acts_460 (by decide) ?_
          refine g_ialdK (D := (dC, dI)) (tys := tYS cI cB cO cL) (k := 3) hx hb hK hW 0 0 rfl rfl (by decide) (by decide) (by decide) dL_acts_461 ?_
          refine tp_i (show (ga 3) = nI (Wn + 1) from by rw [e_ga, upd_eq]) ?_
          refine lv_iconst (v := 1) hx hb dL_acts_462 (by decide) ?_
          refine lv_isub hx hb dL_acts_463 ?_
          refine tp_i (show ((nI (Wn + 1)) - (1 : Int32)) = nI Wn from nI_pred (Wn)) ?_
          refine lv_icmp_ne (tgt := 471) hx hb dL_acts_464 (by decide) (fun h => absurd (rfl) h) (fun _ => ?_)
          refine lv_iconst (v := 1) hx hb dL_acts_467 (by decide) ?_
          refine lv_goto (tgt := 472) hx hb dL_acts_468 (by decide) ?_
          exact hend 472 _ _ _ _ _ (b1, (pX8_outdate s9), u1, tr, te) ga m9 wc ⟨Cn, Rn, Mn, Wn + 1, Nn, hD1, SVI_old _ _ _, hU1⟩ hI hW hS (by omega) (by omega) dL_acts_472
        by_cases h5 : vn % 5 = 0
        · refine lv_if_ne (tgt := 428) hx hb dL_acts_420 (by decide) (fun h => absurd (show nI (vn % 5) = (0 : Int32) by rw [h5]; rfl) h) (fun _ => ?_)
          refine lv_bipush (v := 101) hx hb dL_acts_423 (by decide) ?_
          refine lv_goto (tgt := 430) hx hb dL_acts_425 (by decide) ?_
          refine lv_irem hx hb dL_acts_430 (by decide) ?_
          refine tp_i (show ((nI (vn / 5)) - (nI (vn / 5)) / (101 : Int32) * (101 : Int32)) = nI ((vn / 5) % 101) from nx_rem (a := vn / 5) (d := 101) (by omega) (by omega) (by omega)) ?_
          refine tp_i (show nI ((vn / 5) % 101) = nI l9 from congrArg nI (hl9.trans (if_pos h5)).symm) ?_
          exact J431 _ (lv_sub hl [0, 1, 2, 3, 4, 5, 6] rfl)
        · refine lv_if_ne (tgt := 428) hx hb dL_acts_420 (by decide) (fun _ => ?_) (fun h => absurd ((nI_eq (a := vn % 5) (b := 0) (by omega) (by decide)).mp h) h5)
          refine lv_bipush (v := 40) hx hb dL_acts_428 (by decide) ?_
          refine lv_irem hx hb dL_acts_430 (by decide) ?_
          refine tp_i (show ((nI (vn / 5)) - (nI (vn / 5)) / (40 : Int32) * (40 : Int32)) = nI ((vn / 5) % 40) from nx_rem (a := vn / 5) (d := 40) (by omega) (by omega) (by omega)) ?_
          refine tp_i (show nI ((vn / 5) % 40) = nI l9 from congrArg nI (hl9.trans (if_neg h5)).symm) ?_
          exact J431 _ (lv_sub hl [0, 1, 2, 3, 4, 5, 6] rfl)
      by_cases h3 : vn % 3 = 0
      · refine lv_if_ne (tgt := 386) hx hb dL_acts_377 (by decide) (fun h => absurd (show nI (vn % 3) = (0 : Int32) by rw [h3]; rfl) h) (fun _ => ?_)
        refine lv_sipush (v := 4001) hx hb dL_acts_380 (by decide) ?_
        refine lv_goto (tgt := 389) hx hb dL_acts_383 (by decide) ?_
        refine lv_irem hx hb dL_acts_389 (by decide) ?_
        refine tp_i (show ((nI (vn / 2)) - (nI (vn / 2)) / (4001 : Int32) * (4001 : Int32)) = nI ((vn / 2) % 4001) from nx_rem (a := vn / 2) (d := 4001) (by omega) (by omega) (by omega)) ?_
        refine lv_iload hx hb dL_acts_390 (lv_at hl 1 rfl) ?_
        refine lv_iconst (v := 3) hx hb dL_acts_392 (by decide) ?_
        refine lv_irem hx hb dL_acts_393 (by decide) ?_
        refine tp_i (show ((nI vn) - (nI vn) / (3 : Int32) * (3 : Int32)) = nI (vn % 3) from nx_rem (a := vn) (d := 3) (by omega) (by omega) (by omega)) ?_
        refine lv_if_ne (tgt := 403) hx hb dL_acts_394 (by decide) (fun h => absurd (show nI (vn % 3) = (0 : Int32) by rw [h3]; rfl) h) (fun _ => ?_)
        refine lv_sipush (v := 1000) hx hb dL_acts_397 (by decide) ?_
        refine lv_goto (tgt := 405) hx hb dL_acts_400 (by decide) ?_
        refine lv_isub hx hb dL_acts_405 ?_
        refine tp_i (show ((nI ((vn / 2) % 4001)) - (1000 : Int32)) = c9 from (hc9.trans (if_pos h3)).symm) ?_
        exact J406 _ (lv_sub hl [0, 1, 2, 3, 4, 5, 6] rfl)
      · refine lv_if_ne (tgt := 386) hx hb dL_acts_377 (by decide) (fun _ => ?_) (fun h => absurd ((nI_eq (a := vn % 3) (b := 0) (by omega) (by decide)).mp h) h3)
        refine lv_sipush (v := 1300) hx hb dL_acts_386 (by decide) ?_
        refine lv_irem hx hb dL_acts_389 (by decide) ?_
        refine tp_i (show ((nI (vn / 2)) - (nI (vn / 2)) / (1300 : Int32) * (1300 : Int32)) = nI ((vn / 2) % 1300) from nx_rem (a := vn / 2) (d := 1300) (by omega) (by omega) (by omega)) ?_
        refine lv_iload hx hb dL_acts_390 (lv_at hl 1 rfl) ?_
        refine lv_iconst (v := 3) hx hb dL_acts_392 (by decide) ?_
        refine lv_irem hx hb dL_acts_393 (by decide) ?_
        refine tp_i (show ((nI vn) - (nI vn) / (3 : Int32) * (3 : Int32)) = nI (vn % 3) from nx_rem (a := vn) (d := 3) (by omega) (by omega) (by omega)) ?_
        refine lv_if_ne (tgt := 403) hx hb dL_acts_394 (by decide) (fun _ => ?_) (fun h => absurd ((nI_eq (a := vn % 3) (b := 0) (by omega) (by decide)).mp h) h3)
        refine lv_bipush (v := 100) hx hb dL_acts_403 (by decide) ?_
        refine lv_isub hx hb dL_acts_405 ?_
        refine tp_i (show ((nI ((vn / 2) % 1300)) - (100 : Int32)) = c9 from (hc9.trans (if_neg h3)).symm) ?_
        exact J406 _ (lv_sub hl [0, 1, 2, 3, 4, 5, 6] rfl)
  have K473 : ∀ ls : Array Slot, lv_has ls 20 [(5, .int (nI vn)), (0, .ref (qk 0)), (1, .ref (qg 0)), (2, .ref (qm 0)), (3, .ref (qw 0)), (4, .int z)] → W p l e rL_acts s m ([.ref (qk 0), .ref (qg 0), .ref (qm 0), .ref (qw 0), .int z] : List Value).toArray below meth c s.heap [] (0) (0) QQ (F0 m 473 ls []) := by
    intro ls hl
    refine lv_aload_n hx hb dL_acts_473 rfl (lv_at hl 2 rfl) ?_
    refine lv_iconst (v := 4) hx hb dL_acts_474 (by decide) ?_
    refine g_ialdK (D := (dC, dI)) (tys := tYS cI cB cO cL) (k := 4) hx hb hK hW 0 0 rfl rfl (by decide) (by decide) (by decide) dL_acts_475 ?_
    refine tp_i (show (g 4) = nI Nn from hD.1.eN) ?_
    refine lv_iconst (v := 3) hx hb dL_acts_476 (by decide) ?_
    by_cases h9 : Nn = 3
    · refine lv_icmp_ne (tgt := 499) hx hb dL_acts_477 (by decide) (fun h => absurd (show nI (Nn) = (3 : Int32) by rw [h9]; rfl) h) (fun _ => ?_)
      refine lv_aload_n hx hb dL_acts_480 rfl (lv_at hl 1 rfl) ?_
      refine lv_iconst (v := 0) hx hb dL_acts_481 (by decide) ?_
      refine lv_iconst (v := 0) hx hb dL_acts_482 (by decide) ?_
      refine lv_iconst (v := 5) hx hb dL_acts_483 (by decide) ?_
      refine lv_iconst (v := 5) hx hb dL_acts_484 (by decide) ?_
      have f7 := screen_no b s9 u kk
      refine w_screens (R := rL_acts) (cells := 0) (slots := 0) (wo := arW qg qm qw cI g m9 w) hfl hx hb hml hown hts hK hF hC hN hG hA rfl hN0 hS hI hW f7.1 f7.2 (Or.inr (Or.inl rfl)) ⟨Nat.le_of_ble_eq_true rfl, Nat.le_of_ble_eq_true rfl⟩ ((-100000002)) (rfl) (Nat.le_of_ble_eq_true rfl) hl.1 dL_acts_485 ⟨(by omega : 0 + 4 ≤ 5), (by omega : 0 + 24 ≤ 84)⟩ (fun H locs hI hW hS => ?_)
      refine lv_ldc (v := (-100000002)) hx hb hown (hts (.constant RL 48 (-100000002)) (gTt tw443)) dL_acts_488 ?_
      refine lv_icmp_ne (tgt := 497) hx hb dL_acts_490 (by decide) (fun h => absurd (rfl) h) (fun _ => ?_)
      refine lv_iconst (v := 1) hx hb dL_acts_493 (by decide) ?_
      refine lv_goto (tgt := 498) hx hb dL_acts_494 (by decide) ?_
      exact hend 498 _ _ _ _ _ (b, s9, u, tr, te) g m9 w ⟨Cn, Rn, Mn, Wn, Nn, hD, hV, hU⟩ hI hW hS (by omega) (by omega) dL_acts_498
    · refine lv_icmp_ne (tgt := 499) hx hb dL_acts_477 (by decide) (fun _ => ?_) (fun h => absurd ((nI_eq (a := Nn) (b := 3) (by omega) (by decide)).mp h) (by omega))
      have hN3 : Nn < 3 := by omega
      refine lv_bipush (v := 12) hx hb dL_acts_499 (by decide) ?_
      refine lv_iconst (v := 4) hx hb dL_acts_501 (by decide) ?_
      refine lv_aload_n hx hb dL_acts_502 rfl (lv_at hl 2 rfl) ?_
      refine lv_iconst (v := 4) hx hb dL_acts_503 (by decide) ?_
      refine g_ialdK (D := (dC, dI)) (tys := tYS cI cB cO cL) (k := 4) hx hb hK hW 0 0 rfl rfl (by decide) (by decide) (by decide) dL_acts_504 ?_
      refine tp_i (show (g 4) = nI Nn from hD.1.eN) ?_
      refine lv_imul hx hb dL_acts_505 ?_
      refine tp_i (show ((4 : Int32) * (nI Nn)) = nI (4 * Nn) from pk_mul 4 Nn) ?_
      refine lv_iadd hx hb dL_acts_506 ?_
      refine tp_i (show ((12 : Int32) + (nI (4 * Nn))) = nI (12 + 4 * Nn) from nI_add 12 (4 * Nn)) ?_
      refine lv_istore (lv' := [(10, .int (nI (12 + 4 * Nn))), (5, .int (nI vn)), (0, .ref (qk 0)), (1, .ref (qg 0)), (2, .ref (qm 0)), (3, .ref (qw 0)), (4, .int z)]) hx hb dL_acts_507 hl (by decide) rfl (fun ls hl => ?_)
      refine lv_aload_n hx hb dL_acts_509 rfl (lv_at hl 5 rfl) ?_
      refine lv_iload hx hb dL_acts_510 (lv_at hl 0 rfl) ?_
      refine lv_iload hx hb dL_acts_512 (lv_at hl 1 rfl) ?_
      refine lv_iconst (v := 2) hx hb dL_acts_514 (by decide) ?_
      refine lv_irem hx hb dL_acts_515 (by decide) ?_
      refine tp_i (show ((nI vn) - (nI vn) / (2 : Int32) * (2 : Int32)) = nI (vn % 2) from nx_rem (a := vn) (d := 2) (by omega) (by omega) (by omega)) ?_
      refine o_iast (D := (dC, dI)) (tys := tYS cI cB cO cL) (k := 12 + 4 * Nn) hx hb hK hG hI hW hS rfl 2 0 rfl rfl (nI_clamp (by omega)) (nI_pos (by omega)) (by omega) dL_acts_516 (fun H locs hI hW hS => ?_)
      obtain ⟨wa, e_wa⟩ : ∃ z9 : Nat → Int32, z9 = upd w (12 + 4 * Nn) (nI (vn % 2)) := ⟨_, rfl⟩
      have hW : va_P (dC, dI) vwCl (arW qg qm qw cI g m9 wa) H := by rw [e_wa]; exact hW
      refine lv_aload_n hx hb dL_acts_517 rfl (lv_at hl 5 rfl) ?_
      refine lv_iload hx hb dL_acts_518 (lv_at hl 0 rfl) ?_
      refine lv_iconst (v := 1) hx hb dL_acts_520 (by decide) ?_
      refine lv_iadd hx hb dL_acts_521 ?_
      refine tp_i (show ((nI (12 + 4 * Nn)) + (1 : Int32)) = nI (12 + 4 * Nn + 1) from nI_add (12 + 4 * Nn) 1) ?_
      refine lv_iload hx hb dL_acts_522 (lv_at hl 1 rfl) ?_
      refine lv_iconst (v := 2) hx hb dL_acts_524 (by decide) ?_
      refine lv_idiv hx hb dL_acts_525 (by decide) ?_
      refine tp_i (show ((nI vn) / (2 : Int32)) = nI (vn / 2) from nx_div (a := vn) (d := 2) (by omega) (by omega) (by omega)) ?_
      refine lv_sipush (v := 1200) hx hb dL_acts_526 (by decide) ?_
      refine lv_irem hx hb dL_acts_529 (by decide) ?_
      refine tp_i (show ((nI (vn / 2)) - (nI (vn / 2)) / (1200 : Int32) * (1200 : Int32)) = nI ((vn / 2) % 1200) from nx_rem (a := vn / 2) (d := 1200) (by omega) (by omega) (by omega)) ?_
      refine lv_bipush (v := 100) hx hb dL_acts_530 (by decide) ?_
      refine lv_isub hx hb dL_acts_532 ?_
      obtain ⟨c9, ec9, hc9⟩ := off_g (j := vn / 2 % 1200) (a := 100) (by decide) (by omega)
      refine tp_i (show ((nI ((vn / 2) % 1200)) - (100 : Int32)) = c9 from ec9) ?_
      refine o_iast (D := (dC, dI)) (tys := tYS cI cB cO cL) (k := 12 + 4 * Nn + 1) hx hb hK hG hI hW hS rfl 2 0 rfl rfl (nI_clamp (by omega)) (nI_pos (by omega)) (by omega) dL_acts_533 (fun H locs hI hW hS => ?_)
      obtain ⟨wb, e_wb⟩ : ∃ z9 : Nat → Int32, z9 = upd wa (12 + 4 * Nn + 1) c9 := ⟨_, rfl⟩
      have hW : va_P (dC, dI) vwCl (arW qg qm qw cI g m9 wb) H := by rw [e_wb]; exact hW
      refine lv_aload_n hx hb dL_acts_534 rfl (lv_at hl 5 rfl) ?_
      refine lv_iload hx hb dL_acts_535 (lv_at hl 0 rfl) ?_
      refine lv_iconst (v := 2) hx hb dL_acts_537 (by decide) ?_
      refine lv_iadd hx hb dL_acts_538 ?_
      refine tp_i (show ((nI (12 + 4 * Nn)) + (2 : Int32)) = nI (12 + 4 * Nn + 2) from nI_add (12 + 4 * Nn) 2) ?_
      refine lv_iload hx hb dL_acts_539 (lv_at hl 1 rfl) ?_
      refine lv_iconst (v := 3) hx hb dL_acts_541 (by decide) ?_
      refine lv_idiv hx hb dL_acts_542 (by decide) ?_
      refine tp_i (show ((nI vn) / (3 : Int32)) = nI (vn / 3) from nx_div (a := vn) (d := 3) (by omega) (by omega) (by omega)) ?_
      refine lv_sipush (v := 1000) hx hb dL_acts_543 (by decide) ?_
      refine lv_irem hx hb dL_acts_546 (by decide) ?_
      refine tp_i (show ((nI (vn / 3)) - (nI (vn / 3)) / (1000 : Int32) * (1000 : Int32)) = nI ((vn / 3) % 1000) from nx_rem (a := vn / 3) (d := 1000) (by omega) (by omega) (by omega)) ?_
      refine lv_bipush (v := 100) hx hb dL_acts_547 (by decide) ?_
      refine lv_isub hx hb dL_acts_549 ?_
      obtain ⟨f9, ef9, hf9⟩ := off_g (j := vn / 3 % 1000) (a := 100) (by decide) (by omega)
      refine tp_i (show ((nI ((vn / 3) % 1000)) - (100 : Int32)) = f9 from ef9) ?_
      refine o_iast (D := (dC, dI)) (tys := tYS cI cB cO cL) (k := 12 + 4 * Nn + 2) hx hb hK hG hI hW hS rfl 2 0 rfl rfl (nI_clamp (by omega)) (nI_pos (by omega)) (by omega) dL_acts_550 (fun H locs hI hW hS => ?_)
      obtain ⟨wc, e_wc⟩ : ∃ z9 : Nat → Int32, z9 = upd wb (12 + 4 * Nn + 2) f9 := ⟨_, rfl⟩
      have hW : va_P (dC, dI) vwCl (arW qg qm qw cI g m9 wc) H := by rw [e_wc]; exact hW
      refine lv_aload_n hx hb dL_acts_551 rfl (lv_at hl 5 rfl) ?_
      refine lv_iload hx hb dL_acts_552 (lv_at hl 0 rfl) ?_
      refine lv_iconst (v := 3) hx hb dL_acts_554 (by decide) ?_
      refine lv_iadd hx hb dL_acts_555 ?_
      refine tp_i (show ((nI (12 + 4 * Nn)) + (3 : Int32)) = nI (12 + 4 * Nn + 3) from nI_add (12 + 4 * Nn) 3) ?_
      refine lv_aload_n hx hb dL_acts_556 rfl (lv_at hl 5 rfl) ?_
      refine lv_iload hx hb dL_acts_557 (lv_at hl 0 rfl) ?_
      refine lv_iconst (v := 2) hx hb dL_acts_559 (by decide) ?_
      refine lv_iadd hx hb dL_acts_560 ?_
      refine tp_i (show ((nI (12 + 4 * Nn)) + (2 : Int32)) = nI (12 + 4 * Nn + 2) from nI_add (12 + 4 * Nn) 2) ?_
      refine g_ialdK (D := (dC, dI)) (tys := tYS cI cB cO cL) (k := 12 + 4 * Nn + 2) hx hb hK hW 2 0 rfl rfl (nI_clamp (by omega)) (nI_pos (by omega)) (by omega) dL_acts_561 ?_
      refine tp_i (show (wc (12 + 4 * Nn + 2)) = f9 from by rw [e_wc, upd_eq]) ?_
      refine lv_iconst (v := 1) hx hb dL_acts_562 (by decide) ?_
      refine lv_iadd hx hb dL_acts_563 ?_
      refine lv_iload hx hb dL_acts_564 (lv_at hl 1 rfl) ?_
      refine lv_bipush (v := 7) hx hb dL_acts_566 (by decide) ?_
      refine lv_idiv hx hb dL_acts_568 (by decide) ?_
      refine tp_i (show ((nI vn) / (7 : Int32)) = nI (vn / 7) from nx_div (a := vn) (d := 7) (by omega) (by omega) (by omega)) ?_
      refine lv_sipush (v := 900) hx hb dL_acts_569 (by decide) ?_
      refine lv_irem hx hb dL_acts_572 (by decide) ?_
      refine tp_i (show ((nI (vn / 7)) - (nI (vn / 7)) / (900 : Int32) * (900 : Int32)) = nI ((vn / 7) % 900) from nx_rem (a := vn / 7) (d := 900) (by omega) (by omega) (by omega)) ?_
      refine lv_iadd hx hb dL_acts_573 ?_
      obtain ⟨zz, ezz, hzz⟩ := add_g (x := f9) (n := vn / 7 % 900) (by omega) (by omega) (by omega)
      refine tp_i (show ((f9 + (1 : Int32)) + (nI ((vn / 7) % 900))) = zz from ezz) ?_
      refine o_iast (D := (dC, dI)) (tys := tYS cI cB cO cL) (k := 12 + 4 * Nn + 3) hx hb hK hG hI hW hS rfl 2 0 rfl rfl (nI_clamp (by omega)) (nI_pos (by omega)) (by omega) dL_acts_574 (fun H locs hI hW hS => ?_)
      obtain ⟨wd, e_wd⟩ : ∃ z9 : Nat → Int32, z9 = upd wc (12 + 4 * Nn + 3) zz := ⟨_, rfl⟩
      have hW : va_P (dC, dI) vwCl (arW qg qm qw cI g m9 wd) H := by rw [e_wd]; exact hW
      refine lv_aload_n hx hb dL_acts_575 rfl (lv_at hl 3 rfl) ?_
      refine lv_iconst (v := 4) hx hb dL_acts_576 (by decide) ?_
      refine lv_dup2_11 hx hb dL_acts_577 rfl rfl ?_
      refine g_ialdK (D := (dC, dI)) (tys := tYS cI cB cO cL) (k := 4) hx hb hK hW 0 0 rfl rfl (by decide) (by decide) (by decide) dL_acts_578 ?_
      refine tp_i (show (g 4) = nI Nn from hD.1.eN) ?_
      refine lv_iconst (v := 1) hx hb dL_acts_579 (by decide) ?_
      refine lv_iadd hx hb dL_acts_580 ?_
      refine tp_i (show ((nI Nn) + (1 : Int32)) = nI (Nn + 1) from nI_add Nn 1) ?_
      refine o_iast (D := (dC, dI)) (tys := tYS cI cB cO cL) (k := 4) hx hb hK hG hI hW hS rfl 0 0 rfl rfl (by decide) (by decide) (by decide) dL_acts_581 (fun H locs hI hW hS => ?_)
      obtain ⟨ga, e_ga⟩ : ∃ z9 : Nat → Int32, z9 = upd g 4 (nI (Nn + 1)) := ⟨_, rfl⟩
      have hW : va_P (dC, dI) vwCl (arW qg qm qw cI ga m9 wd) H := by rw [e_ga]; exact hW
      refine lv_aload_n hx hb dL_acts_582 rfl (lv_at hl 2 rfl) ?_
      refine lv_aload_n hx hb dL_acts_583 rfl (lv_at hl 5 rfl) ?_
      refine lv_iload hx hb dL_acts_584 (lv_at hl 0 rfl) ?_
      refine g_ialdK (D := (dC, dI)) (tys := tYS cI cB cO cL) (k := 12 + 4 * Nn) hx hb hK hW 2 0 rfl rfl (nI_clamp (by omega)) (nI_pos (by omega)) (by omega) dL_acts_586 ?_
      refine tp_i (show (wd (12 + 4 * Nn)) = nI (vn % 2) from by rw [e_wd, upd_ne _ _ (show 12 + 4 * Nn ≠ 12 + 4 * Nn + 3 by omega), e_wc, upd_ne _ _ (show 12 + 4 * Nn ≠ 12 + 4 * Nn + 2 by omega), e_wb, upd_ne _ _ (show 12 + 4 * Nn ≠ 12 + 4 * Nn + 1 by omega), e_wa, upd_eq]) ?_
      refine lv_aload_n hx hb dL_acts_587 rfl (lv_at hl 5 rfl) ?_
      refine lv_iload hx hb dL_acts_588 (lv_at hl 0 rfl) ?_
      refine lv_iconst (v := 1) hx hb dL_acts_590 (by decide) ?_
      refine lv_iadd hx hb dL_acts_591 ?_
      refine tp_i (show ((nI (12 + 4 * Nn)) + (1 : Int32)) = nI (12 + 4 * Nn + 1) from nI_add (12 + 4 * Nn) 1) ?_
      refine g_ialdK (D := (dC, dI)) (tys := tYS cI cB cO cL) (k := 12 + 4 * Nn + 1) hx hb hK hW 2 0 rfl rfl (nI_clamp (by omega)) (nI_pos (by omega)) (by omega) dL_acts_592 ?_
      refine tp_i (show (wd (12 + 4 * Nn + 1)) = c9 from by rw [e_wd, upd_ne _ _ (show 12 + 4 * Nn + 1 ≠ 12 + 4 * Nn + 3 by omega), e_wc, upd_ne _ _ (show 12 + 4 * Nn + 1 ≠ 12 + 4 * Nn + 2 by omega), e_wb, upd_eq]) ?_
      refine lv_aload_n hx hb dL_acts_593 rfl (lv_at hl 5 rfl) ?_
      refine lv_iload hx hb dL_acts_594 (lv_at hl 0 rfl) ?_
      refine lv_iconst (v := 2) hx hb dL_acts_596 (by decide) ?_
      refine lv_iadd hx hb dL_acts_597 ?_
      refine tp_i (show ((nI (12 + 4 * Nn)) + (2 : Int32)) = nI (12 + 4 * Nn + 2) from nI_add (12 + 4 * Nn) 2) ?_
      refine g_ialdK (D := (dC, dI)) (tys := tYS cI cB cO cL) (k := 12 + 4 * Nn + 2) hx hb hK hW 2 0 rfl rfl (nI_clamp (by omega)) (nI_pos (by omega)) (by omega) dL_acts_598 ?_
      refine tp_i (show (wd (12 + 4 * Nn + 2)) = f9 from by rw [e_wd, upd_ne _ _ (show 12 + 4 * Nn + 2 ≠ 12 + 4 * Nn + 3 by omega), e_wc, upd_eq]) ?_
      refine lv_aload_n hx hb dL_acts_599 rfl (lv_at hl 5 rfl) ?_
      refine lv_iload hx hb dL_acts_600 (lv_at hl 0 rfl) ?_
      refine lv_iconst (v := 3) hx hb dL_acts_602 (by decide) ?_
      refine lv_iadd hx hb dL_acts_603 ?_
      refine tp_i (show ((nI (12 + 4 * Nn)) + (3 : Int32)) = nI (12 + 4 * Nn + 3) from nI_add (12 + 4 * Nn) 3) ?_
      refine g_ialdK (D := (dC, dI)) (tys := tYS cI cB cO cL) (k := 12 + 4 * Nn + 3) hx hb hK hW 2 0 rfl rfl (nI_clamp (by omega)) (nI_pos (by omega)) (by omega) dL_acts_604 ?_
      refine tp_i (show (wd (12 + 4 * Nn + 3)) = zz from by rw [e_wd, upd_eq]) ?_
      obtain ⟨b1, u1, hf, hk, hU1, hD1⟩ := screen_ok (g' := ga) (w' := wd) (a := nI (vn % 2)) (c := c9) (f := f9) (z := zz) hD hU s9 kk hN3 (ni01 (by omega)) ⟨by omega, by omega⟩ ⟨by omega, by omega⟩ ⟨by omega, by omega⟩ (by omega) (show ga 4 = nI (Nn + 1) from by rw [e_ga, upd_eq]) (fun q hq => by rw [e_ga, upd_ne _ _ (show q ≠ 4 by omega)]) (show wd (12 + 4 * Nn) = nI (vn % 2) from by rw [e_wd, upd_ne _ _ (show 12 + 4 * Nn ≠ 12 + 4 * Nn + 3 by omega), e_wc, upd_ne _ _ (show 12 + 4 * Nn ≠ 12 + 4 * Nn + 2 by omega), e_wb, upd_ne _ _ (show 12 + 4 * Nn ≠ 12 + 4 * Nn + 1 by omega), e_wa, upd_eq]) (show wd (12 + 4 * Nn + 1) = c9 from by rw [e_wd, upd_ne _ _ (show 12 + 4 * Nn + 1 ≠ 12 + 4 * Nn + 3 by omega), e_wc, upd_ne _ _ (show 12 + 4 * Nn + 1 ≠ 12 + 4 * Nn + 2 by omega), e_wb, upd_eq]) (show wd (12 + 4 * Nn + 2) = f9 from by rw [e_wd, upd_ne _ _ (show 12 + 4 * Nn + 2 ≠ 12 + 4 * Nn + 3 by omega), e_wc, upd_eq]) (show wd (12 + 4 * Nn + 3) = zz from by rw [e_wd, upd_eq]) (fun q hq => by rw [e_wd, upd_ne _ _ (show q ≠ 12 + 4 * Nn + 3 by omega), e_wc, upd_ne _ _ (show q ≠ 12 + 4 * Nn + 2 by omega), e_wb, upd_ne _ _ (show q ≠ 12 + 4 * Nn + 1 by omega), e_wa, upd_ne _ _ (show q ≠ 12 + 4 * Nn by omega)])
      have f8 := And.intro hf hk
      refine w_screens (R := rL_acts) (cells := 0) (slots := 0) (wo := arW qg qm qw cI ga m9 wd) hfl hx hb hml hown hts hK hF hC hN hG hA rfl hN0 hS hI hW f8.1 f8.2 (Or.inl rfl) ⟨Nat.le_of_ble_eq_true rfl, Nat.le_of_ble_eq_true rfl⟩ (nI Nn) (rfl) (Nat.le_of_ble_eq_true rfl) hl.1 dL_acts_605 ⟨(by omega : 0 + 4 ≤ 5), (by omega : 0 + 24 ≤ 84)⟩ (fun H locs hI hW hS => ?_)
      refine lv_aload_n hx hb dL_acts_608 rfl (lv_at hl 3 rfl) ?_
      refine lv_iconst (v := 4) hx hb dL_acts_609 (by decide) ?_
      refine g_ialdK (D := (dC, dI)) (tys := tYS cI cB cO cL) (k := 4) hx hb hK hW 0 0 rfl rfl (by decide) (by decide) (by decide) dL_acts_610 ?_
      refine tp_i (show (ga 4) = nI (Nn + 1) from by rw [e_ga, upd_eq]) ?_
      refine lv_iconst (v := 1) hx hb dL_acts_611 (by decide) ?_
      refine lv_isub hx hb dL_acts_612 ?_
      refine tp_i (show ((nI (Nn + 1)) - (1 : Int32)) = nI Nn from nI_pred (Nn)) ?_
      refine lv_icmp_ne (tgt := 620) hx hb dL_acts_613 (by decide) (fun h => absurd (rfl) h) (fun _ => ?_)
      refine lv_iconst (v := 1) hx hb dL_acts_616 (by decide) ?_
      refine lv_goto (tgt := 621) hx hb dL_acts_617 (by decide) ?_
      exact hend 621 _ _ _ _ _ (b1, (pX8_outdate s9), u1, tr, te) ga m9 wd ⟨Cn, Rn, Mn, Wn, Nn + 1, hD1, SVI_old _ _ _, hU1⟩ hI hW hS (by omega) (by omega) dL_acts_621
  have K622 : ∀ ls : Array Slot, lv_has ls 20 [(5, .int (nI vn)), (0, .ref (qk 0)), (1, .ref (qg 0)), (2, .ref (qm 0)), (3, .ref (qw 0)), (4, .int z)] → W p l e rL_acts s m ([.ref (qk 0), .ref (qg 0), .ref (qm 0), .ref (qw 0), .int z] : List Value).toArray below meth c s.heap [] (0) (0) QQ (F0 m 622 ls []) := by
    intro ls hl
    refine lv_iload hx hb dL_acts_622 (lv_at hl 0 rfl) ?_
    refine lv_iconst (v := 3) hx hb dL_acts_624 (by decide) ?_
    refine lv_irem hx hb dL_acts_625 (by decide) ?_
    refine tp_i (show ((nI vn) - (nI vn) / (3 : Int32) * (3 : Int32)) = nI (vn % 3) from nx_rem (a := vn) (d := 3) (by omega) (by omega) (by omega)) ?_
    have hk3 : vn % 3 = 0 ∨ vn % 3 = 1 ∨ vn % 3 = 2 := by omega
    rcases hk3 with hk3 | hk3 | hk3
    · refine tp_i (show nI (vn % 3) = (0 : Int32) from by rw [hk3]; rfl) ?_
      refine lv_istore (lv' := [(11, .int 0), (5, .int (nI vn)), (0, .ref (qk 0)), (1, .ref (qg 0)), (2, .ref (qm 0)), (3, .ref (qw 0)), (4, .int z)]) hx hb dL_acts_626 hl (by decide) rfl (fun ls hl => ?_)
      refine lv_aload_n hx hb dL_acts_628 rfl (lv_at hl 3 rfl) ?_
      refine lv_iconst (v := 2) hx hb dL_acts_629 (by decide) ?_
      refine lv_iload hx hb dL_acts_630 (lv_at hl 0 rfl) ?_
      refine lv_iadd hx hb dL_acts_632 ?_
      refine tp_i (show ((2 : Int32) + (0 : Int32)) = (2 : Int32) from by decide) ?_
      refine g_ialdK (D := (dC, dI)) (tys := tYS cI cB cO cL) (k := 2) hx hb hK hW 0 0 rfl rfl (by decide) (by decide) (by decide) dL_acts_633 ?_
      refine tp_i (show (g 2) = nI Mn from hD.1.eM) ?_
      refine lv_istore (lv' := [(12, .int (nI Mn)), (11, .int 0), (5, .int (nI vn)), (0, .ref (qk 0)), (1, .ref (qg 0)), (2, .ref (qm 0)), (3, .ref (qw 0)), (4, .int z)]) hx hb dL_acts_634 hl (by decide) rfl (fun ls hl => ?_)
      refine lv_iload hx hb dL_acts_636 (lv_at hl 0 rfl) ?_
      have K648 : ∀ ls : Array Slot, lv_has ls 20 [(12, .int (nI Mn)), (11, .int 0), (5, .int (nI vn)), (0, .ref (qk 0)), (1, .ref (qg 0)), (2, .ref (qm 0)), (3, .ref (qw 0)), (4, .int z)] → W p l e rL_acts s m ([.ref (qk 0), .ref (qg 0), .ref (qm 0), .ref (qw 0), .int z] : List Value).toArray below meth c s.heap [] (0) (0) QQ (F0 m 648 ls []) := by
        intro ls hl
        refine lv_aload_n hx hb dL_acts_648 rfl (lv_at hl 3 rfl) ?_
        refine lv_iload hx hb dL_acts_649 (lv_at hl 1 rfl) ?_
        refine lv_iload hx hb dL_acts_651 (lv_at hl 0 rfl) ?_
        have f9 := rem0_no hD.1 s9 u kk
        refine w_drops (R := rL_acts) (cells := 0) (slots := 0) (wo := arW qg qm qw cI g m9 w) hfl hx hb hml hown hts hK hF hC hN hG hA rfl hN0 hS hI hW f9.1 f9.2 (Or.inr (Or.inr rfl)) ⟨Nat.le_of_ble_eq_true rfl, Nat.le_of_ble_eq_true rfl⟩ ((-100000001)) (rfl) (Nat.le_of_ble_eq_true rfl) hl.1 dL_acts_653 ⟨(by omega : 0 + 4 ≤ 5), (by omega : 0 + 24 ≤ 84)⟩ (fun H locs hI hW hS => ?_)
        refine lv_ldc (v := (-100000001)) hx hb hown (hts (.constant RL 63 (-100000001)) (gTt tw521)) dL_acts_656 ?_
        refine lv_icmp_ne (tgt := 665) hx hb dL_acts_658 (by decide) (fun h => absurd (rfl) h) (fun _ => ?_)
        refine lv_iconst (v := 1) hx hb dL_acts_661 (by decide) ?_
        refine lv_goto (tgt := 666) hx hb dL_acts_662 (by decide) ?_
        exact hend 666 _ _ _ _ _ (b, s9, u, tr, te) g m9 w ⟨Cn, Rn, Mn, Wn, Nn, hD, hV, hU⟩ hI hW hS (by omega) (by omega) dL_acts_666
      by_cases h0 : Mn = 0
      · refine lv_if_eq (tgt := 648) hx hb dL_acts_638 (by decide) (fun _ => ?_) (fun h => absurd (show nI Mn = 0 by rw [h0]; rfl) h)
        exact K648 _ (lv_sub hl [0, 1, 2, 3, 4, 5, 6, 7] rfl)
      · refine lv_if_eq (tgt := 648) hx hb dL_acts_638 (by decide) (fun h => absurd h (nI_ne0 (n := Mn) (by omega) (by omega))) (fun _ => ?_)
        refine lv_iload hx hb dL_acts_641 (lv_at hl 2 rfl) ?_
        refine lv_iconst (v := 4) hx hb dL_acts_643 (by decide) ?_
        refine lv_irem hx hb dL_acts_644 (by decide) ?_
        refine tp_i (show ((nI vn) - (nI vn) / (4 : Int32) * (4 : Int32)) = nI (vn % 4) from nx_rem (a := vn) (d := 4) (by omega) (by omega) (by omega)) ?_
        by_cases h4 : vn % 4 = 0
        · refine lv_if_le (tgt := 667) hx hb dL_acts_645 (by decide) (fun _ => ?_) (fun h => absurd (show nI (vn % 4) ≤ 0 by rw [h4]; decide) h)
          have hX : 0 < Mn := by omega
          refine lv_iload hx hb dL_acts_667 (lv_at hl 2 rfl) ?_
          refine lv_bipush (v := 12) hx hb dL_acts_669 (by decide) ?_
          refine lv_idiv hx hb dL_acts_671 (by decide) ?_
          refine tp_i (show ((nI vn) / (12 : Int32)) = nI (vn / 12) from nx_div (a := vn) (d := 12) (by omega) (by omega) (by omega)) ?_
          refine lv_iload hx hb dL_acts_672 (lv_at hl 0 rfl) ?_
          refine lv_irem hx hb dL_acts_674 (nI_ne0 (by omega) (by omega)) ?_
          refine tp_i (show ((nI (vn / 12)) - (nI (vn / 12)) / (nI Mn) * (nI Mn)) = nI ((vn / 12) % Mn) from nx_rem (a := vn / 12) (d := Mn) (by omega) (by omega) (by omega)) ?_
          obtain ⟨i9, hi9, ei9⟩ : ∃ i, i < Mn ∧ nI (vn / 12 % Mn) = nI i := ⟨_, Nat.mod_lt _ hX, rfl⟩
          refine tp_i (show nI ((vn / 12) % Mn) = nI i9 from ei9) ?_
          refine lv_istore (lv' := [(13, .int (nI i9)), (12, .int (nI Mn)), (11, .int 0), (5, .int (nI vn)), (0, .ref (qk 0)), (1, .ref (qg 0)), (2, .ref (qm 0)), (3, .ref (qw 0)), (4, .int z)]) hx hb dL_acts_675 hl (by decide) rfl (fun ls hl => ?_)
          refine lv_aload_n hx hb dL_acts_677 rfl (lv_at hl 5 rfl) ?_
          refine lv_iconst (v := 2) hx hb dL_acts_678 (by decide) ?_
          refine lv_iload hx hb dL_acts_679 (lv_at hl 2 rfl) ?_
          refine lv_iadd hx hb dL_acts_681 ?_
          refine tp_i (show ((2 : Int32) + (0 : Int32)) = (2 : Int32) from by decide) ?_
          refine lv_dup2_11 hx hb dL_acts_682 rfl rfl ?_
          refine g_ialdK (D := (dC, dI)) (tys := tYS cI cB cO cL) (k := 2) hx hb hK hW 0 0 rfl rfl (by decide) (by decide) (by decide) dL_acts_683 ?_
          refine tp_i (show (g 2) = nI Mn from hD.1.eM) ?_
          refine lv_iconst (v := 1) hx hb dL_acts_684 (by decide) ?_
          refine lv_isub hx hb dL_acts_685 ?_
          refine tp_i (show ((nI Mn) - (1 : Int32)) = nI (Mn - 1) from pk_sub (show 1 ≤ Mn from by omega)) ?_
          refine o_iast (D := (dC, dI)) (tys := tYS cI cB cO cL) (k := 2) hx hb hK hG hI hW hS rfl 0 0 rfl rfl (by decide) (by decide) (by decide) dL_acts_686 (fun H locs hI hW hS => ?_)
          obtain ⟨ga, e_ga⟩ : ∃ z9 : Nat → Int32, z9 = upd g 2 (nI (Mn - 1)) := ⟨_, rfl⟩
          have hW : va_P (dC, dI) vwCl (arW qg qm qw cI ga m9 w) H := by rw [e_ga]; exact hW
          refine lv_iload hx hb dL_acts_687 (lv_at hl 2 rfl) ?_
          refine lv_if_ne (tgt := 711) hx hb dL_acts_689 (by decide) (fun h => absurd h (by decide)) (fun _ => ?_)
          refine lv_aload_n hx hb dL_acts_692 rfl (lv_at hl 6 rfl) ?_
          refine lv_bipush (v := 10) hx hb dL_acts_693 (by decide) ?_
          refine lv_iload hx hb dL_acts_695 (lv_at hl 0 rfl) ?_
          refine lv_imul hx hb dL_acts_697 ?_
          refine tp_i (show ((10 : Int32) * (nI i9)) = nI (10 * i9) from pk_mul 10 i9) ?_
          refine lv_bipush (v := 10) hx hb dL_acts_698 (by decide) ?_
          refine lv_bipush (v := 10) hx hb dL_acts_700 (by decide) ?_
          refine lv_iload hx hb dL_acts_702 (lv_at hl 1 rfl) ?_
          refine lv_imul hx hb dL_acts_704 ?_
          refine tp_i (show ((10 : Int32) * (nI Mn)) = nI (10 * Mn) from pk_mul 10 Mn) ?_
          obtain ⟨hkc, hcl⟩ := closes_eq (len := 40) (wd := 10) (E := 10 * Mn) (q := 10 * i9) (by decide) (by omega) (by decide) (by decide) (by omega) m9
          refine o_callv (w0 := iaN qm cI 40 m9) (wr := ia14 qg cI ga ++ ia24 qw cI w) (va_runS (As := [.ref (qm 0), .int (nI (10 * i9)), .int 10, .int (nI (10 * Mn))]) (rest := []) ⟨hx, hb, hml, hown, hts⟩ (mL_closes l dC dI cI cB cO cL qm 40 m9 (nI (10 * i9)) 10 (nI (10 * Mn)) (gD_subT (hG.1 6) [1] rfl rfl) hkc) (va_cwS 4 hts (gT_in gQ_L_closes_64) rfl rfl rfl (by decide +kernel) ⟨Nat.le_of_ble_eq_true rfl, Nat.le_of_ble_eq_true rfl⟩) ⟨gP_blind, gP_ok (va_P_qm hW) hK⟩ rfl rfl hl.1 rfl (lv_room (Nat.le_of_ble_eq_true rfl)) dL_acts_705 ⟨(by omega : 0 + 0 ≤ 5), (by omega : 0 + 0 ≤ 84)⟩) hI (va_P_qmr hW) (gC_qm hG) (fun q h => Or.inl (mem_wA h)) (fun q h => Or.inl (mem_wA h)) (fun q h => (hG.1 6).2 q (by rw [List.mem_singleton.mp h]; show _ ∈ [qg 0, qm 0, qw 0]; simp)) hA hS (fun v9 H locs hp9 hW0 hWr hI hS => ?_)
          have hW : va_P (dC, dI) vwCl (arW qg qm qw cI ga v9 w) H := va_P_qmj hW0 hWr
          refine lv_goto (tgt := 766) hx hb dL_acts_708 (by decide) ?_
          refine lv_aload_n hx hb dL_acts_766 rfl (lv_at hl 4 rfl) ?_
          refine lv_iload hx hb dL_acts_767 (lv_at hl 2 rfl) ?_
          refine lv_iload hx hb dL_acts_769 (lv_at hl 0 rfl) ?_
          obtain ⟨b1, u1, hf, hk, hU1, hD1⟩ := rem0_ok (g' := ga) (m' := v9) hD hU s9 kk hi9 (show ga 2 = nI (Mn - 1) from by rw [e_ga, upd_eq]) (fun q hq => by rw [e_ga, upd_ne _ _ (show q ≠ 2 by omega)]) (fun q => by rw [hp9]; exact hcl q)
          have f10 := And.intro hf hk
          refine w_drops (R := rL_acts) (cells := 0) (slots := 0) (wo := arW qg qm qw cI ga v9 w) hfl hx hb hml hown hts hK hF hC hN hG hA rfl hN0 hS hI hW f10.1 f10.2 (Or.inl rfl) ⟨Nat.le_of_ble_eq_true rfl, Nat.le_of_ble_eq_true rfl⟩ (nI (Mn - 1)) (rfl) (Nat.le_of_ble_eq_true rfl) hl.1 dL_acts_771 ⟨(by omega : 0 + 4 ≤ 5), (by omega : 0 + 24 ≤ 84)⟩ (fun H locs hI hW hS => ?_)
          refine lv_iload hx hb dL_acts_774 (lv_at hl 1 rfl) ?_
          refine lv_iconst (v := 1) hx hb dL_acts_776 (by decide) ?_
          refine lv_isub hx hb dL_acts_777 ?_
          refine tp_i (show ((nI Mn) - (1 : Int32)) = nI (Mn - 1) from pk_sub (show 1 ≤ Mn from by omega)) ?_
          refine lv_icmp_ne (tgt := 785) hx hb dL_acts_778 (by decide) (fun h => absurd (rfl) h) (fun _ => ?_)
          refine lv_iconst (v := 1) hx hb dL_acts_781 (by decide) ?_
          refine lv_goto (tgt := 786) hx hb dL_acts_782 (by decide) ?_
          exact hend 786 _ _ _ _ _ (b1, (pX8_outdate s9), u1, tr, te) ga v9 w ⟨Cn, Rn, Mn - 1, Wn, Nn, hD1, SVI_old _ _ _, hU1⟩ hI hW hS (by omega) (by omega) dL_acts_786
        · refine lv_if_le (tgt := 667) hx hb dL_acts_645 (by decide) (fun h => absurd h (nI_nle (n := vn % 4) (by omega) (by omega))) (fun _ => ?_)
          exact K648 _ (lv_sub hl [0, 1, 2, 3, 4, 5, 6, 7] rfl)
    · refine tp_i (show nI (vn % 3) = (1 : Int32) from by rw [hk3]; rfl) ?_
      refine lv_istore (lv' := [(11, .int 1), (5, .int (nI vn)), (0, .ref (qk 0)), (1, .ref (qg 0)), (2, .ref (qm 0)), (3, .ref (qw 0)), (4, .int z)]) hx hb dL_acts_626 hl (by decide) rfl (fun ls hl => ?_)
      refine lv_aload_n hx hb dL_acts_628 rfl (lv_at hl 3 rfl) ?_
      refine lv_iconst (v := 2) hx hb dL_acts_629 (by decide) ?_
      refine lv_iload hx hb dL_acts_630 (lv_at hl 0 rfl) ?_
      refine lv_iadd hx hb dL_acts_632 ?_
      refine tp_i (show ((2 : Int32) + (1 : Int32)) = (3 : Int32) from by decide) ?_
      refine g_ialdK (D := (dC, dI)) (tys := tYS cI cB cO cL) (k := 3) hx hb hK hW 0 0 rfl rfl (by decide) (by decide) (by decide) dL_acts_633 ?_
      refine tp_i (show (g 3) = nI Wn from hD.1.eW) ?_
      refine lv_istore (lv' := [(12, .int (nI Wn)), (11, .int 1), (5, .int (nI vn)), (0, .ref (qk 0)), (1, .ref (qg 0)), (2, .ref (qm 0)), (3, .ref (qw 0)), (4, .int z)]) hx hb dL_acts_634 hl (by decide) rfl (fun ls hl => ?_)
      refine lv_iload hx hb dL_acts_636 (lv_at hl 0 rfl) ?_
      have K648 : ∀ ls : Array Slot, lv_has ls 20 [(12, .int (nI Wn)), (11, .int 1), (5, .int (nI vn)), (0, .ref (qk 0)), (1, .ref (qg 0)), (2, .ref (qm 0)), (3, .ref (qw 0)), (4, .int z)] → W p l e rL_acts s m ([.ref (qk 0), .ref (qg 0), .ref (qm 0), .ref (qw 0), .int z] : List Value).toArray below meth c s.heap [] (0) (0) QQ (F0 m 648 ls []) := by
        intro ls hl
        refine lv_aload_n hx hb dL_acts_648 rfl (lv_at hl 3 rfl) ?_
        refine lv_iload hx hb dL_acts_649 (lv_at hl 1 rfl) ?_
        refine lv_iload hx hb dL_acts_651 (lv_at hl 0 rfl) ?_
        have f11 := rem1_no hD.1 s9 u kk
        refine w_drops (R := rL_acts) (cells := 0) (slots := 0) (wo := arW qg qm qw cI g m9 w) hfl hx hb hml hown hts hK hF hC hN hG hA rfl hN0 hS hI hW f11.1 f11.2 (Or.inr (Or.inr rfl)) ⟨Nat.le_of_ble_eq_true rfl, Nat.le_of_ble_eq_true rfl⟩ ((-100000001)) (rfl) (Nat.le_of_ble_eq_true rfl) hl.1 dL_acts_653 ⟨(by omega : 0 + 4 ≤ 5), (by omega : 0 + 24 ≤ 84)⟩ (fun H locs hI hW hS => ?_)
        refine lv_ldc (v := (-100000001)) hx hb hown (hts (.constant RL 63 (-100000001)) (gTt tw521)) dL_acts_656 ?_
        refine lv_icmp_ne (tgt := 665) hx hb dL_acts_658 (by decide) (fun h => absurd (rfl) h) (fun _ => ?_)
        refine lv_iconst (v := 1) hx hb dL_acts_661 (by decide) ?_
        refine lv_goto (tgt := 666) hx hb dL_acts_662 (by decide) ?_
        exact hend 666 _ _ _ _ _ (b, s9, u, tr, te) g m9 w ⟨Cn, Rn, Mn, Wn, Nn, hD, hV, hU⟩ hI hW hS (by omega) (by omega) dL_acts_666
      by_cases h0 : Wn = 0
      · refine lv_if_eq (tgt := 648) hx hb dL_acts_638 (by decide) (fun _ => ?_) (fun h => absurd (show nI Wn = 0 by rw [h0]; rfl) h)
        exact K648 _ (lv_sub hl [0, 1, 2, 3, 4, 5, 6, 7] rfl)
      · refine lv_if_eq (tgt := 648) hx hb dL_acts_638 (by decide) (fun h => absurd h (nI_ne0 (n := Wn) (by omega) (by omega))) (fun _ => ?_)
        refine lv_iload hx hb dL_acts_641 (lv_at hl 2 rfl) ?_
        refine lv_iconst (v := 4) hx hb dL_acts_643 (by decide) ?_
        refine lv_irem hx hb dL_acts_644 (by decide) ?_
        refine tp_i (show ((nI vn) - (nI vn) / (4 : Int32) * (4 : Int32)) = nI (vn % 4) from nx_rem (a := vn) (d := 4) (by omega) (by omega) (by omega)) ?_
        by_cases h4 : vn % 4 = 0
        · refine lv_if_le (tgt := 667) hx hb dL_acts_645 (by decide) (fun _ => ?_) (fun h => absurd (show nI (vn % 4) ≤ 0 by rw [h4]; decide) h)
          have hX : 0 < Wn := by omega
          refine lv_iload hx hb dL_acts_667 (lv_at hl 2 rfl) ?_
          refine lv_bipush (v := 12) hx hb dL_acts_669 (by decide) ?_
          refine lv_idiv hx hb dL_acts_671 (by decide) ?_
          refine tp_i (show ((nI vn) / (12 : Int32)) = nI (vn / 12) from nx_div (a := vn) (d := 12) (by omega) (by omega) (by omega)) ?_
          refine lv_iload hx hb dL_acts_672 (lv_at hl 0 rfl) ?_
          refine lv_irem hx hb dL_acts_674 (nI_ne0 (by omega) (by omega)) ?_
          refine tp_i (show ((nI (vn / 12)) - (nI (vn / 12)) / (nI Wn) * (nI Wn)) = nI ((vn / 12) % Wn) from nx_rem (a := vn / 12) (d := Wn) (by omega) (by omega) (by omega)) ?_
          obtain ⟨i9, hi9, ei9⟩ : ∃ i, i < Wn ∧ nI (vn / 12 % Wn) = nI i := ⟨_, Nat.mod_lt _ hX, rfl⟩
          refine tp_i (show nI ((vn / 12) % Wn) = nI i9 from ei9) ?_
          refine lv_istore (lv' := [(13, .int (nI i9)), (12, .int (nI Wn)), (11, .int 1), (5, .int (nI vn)), (0, .ref (qk 0)), (1, .ref (qg 0)), (2, .ref (qm 0)), (3, .ref (qw 0)), (4, .int z)]) hx hb dL_acts_675 hl (by decide) rfl (fun ls hl => ?_)
          refine lv_aload_n hx hb dL_acts_677 rfl (lv_at hl 5 rfl) ?_
          refine lv_iconst (v := 2) hx hb dL_acts_678 (by decide) ?_
          refine lv_iload hx hb dL_acts_679 (lv_at hl 2 rfl) ?_
          refine lv_iadd hx hb dL_acts_681 ?_
          refine tp_i (show ((2 : Int32) + (1 : Int32)) = (3 : Int32) from by decide) ?_
          refine lv_dup2_11 hx hb dL_acts_682 rfl rfl ?_
          refine g_ialdK (D := (dC, dI)) (tys := tYS cI cB cO cL) (k := 3) hx hb hK hW 0 0 rfl rfl (by decide) (by decide) (by decide) dL_acts_683 ?_
          refine tp_i (show (g 3) = nI Wn from hD.1.eW) ?_
          refine lv_iconst (v := 1) hx hb dL_acts_684 (by decide) ?_
          refine lv_isub hx hb dL_acts_685 ?_
          refine tp_i (show ((nI Wn) - (1 : Int32)) = nI (Wn - 1) from pk_sub (show 1 ≤ Wn from by omega)) ?_
          refine o_iast (D := (dC, dI)) (tys := tYS cI cB cO cL) (k := 3) hx hb hK hG hI hW hS rfl 0 0 rfl rfl (by decide) (by decide) (by decide) dL_acts_686 (fun H locs hI hW hS => ?_)
          obtain ⟨ga, e_ga⟩ : ∃ z9 : Nat → Int32, z9 = upd g 3 (nI (Wn - 1)) := ⟨_, rfl⟩
          have hW : va_P (dC, dI) vwCl (arW qg qm qw cI ga m9 w) H := by rw [e_ga]; exact hW
          refine lv_iload hx hb dL_acts_687 (lv_at hl 2 rfl) ?_
          refine lv_if_ne (tgt := 711) hx hb dL_acts_689 (by decide) (fun _ => ?_) (fun h => absurd h (by decide))
          refine lv_aload_n hx hb dL_acts_711 rfl (lv_at hl 7 rfl) ?_
          refine lv_iload hx hb dL_acts_712 (lv_at hl 2 rfl) ?_
          refine lv_iconst (v := 1) hx hb dL_acts_714 (by decide) ?_
          refine lv_icmp_ne (tgt := 725) hx hb dL_acts_715 (by decide) (fun h => absurd h (by decide)) (fun _ => ?_)
          refine lv_iconst (v := 3) hx hb dL_acts_718 (by decide) ?_
          refine lv_iload hx hb dL_acts_719 (lv_at hl 0 rfl) ?_
          refine lv_imul hx hb dL_acts_721 ?_
          refine tp_i (show ((3 : Int32) * (nI i9)) = nI (3 * i9) from pk_mul 3 i9) ?_
          refine lv_goto (tgt := 732) hx hb dL_acts_722 (by decide) ?_
          refine lv_iload hx hb dL_acts_732 (lv_at hl 2 rfl) ?_
          refine lv_iconst (v := 1) hx hb dL_acts_734 (by decide) ?_
          refine lv_icmp_ne (tgt := 742) hx hb dL_acts_735 (by decide) (fun h => absurd h (by decide)) (fun _ => ?_)
          refine lv_iconst (v := 3) hx hb dL_acts_738 (by decide) ?_
          refine lv_goto (tgt := 743) hx hb dL_acts_739 (by decide) ?_
          refine lv_iload hx hb dL_acts_743 (lv_at hl 2 rfl) ?_
          refine lv_iconst (v := 1) hx hb dL_acts_745 (by decide) ?_
          refine lv_icmp_ne (tgt := 756) hx hb dL_acts_746 (by decide) (fun h => absurd h (by decide)) (fun _ => ?_)
          refine lv_iconst (v := 3) hx hb dL_acts_749 (by decide) ?_
          refine lv_iload hx hb dL_acts_750 (lv_at hl 1 rfl) ?_
          refine lv_imul hx hb dL_acts_752 ?_
          refine tp_i (show ((3 : Int32) * (nI Wn)) = nI (3 * Wn) from pk_mul 3 Wn) ?_
          refine lv_goto (tgt := 763) hx hb dL_acts_753 (by decide) ?_
          obtain ⟨hkc, hcl⟩ := closes_eq (len := 24) (wd := 3) (E := 3 * Wn) (q := 3 * i9) (by decide) (by omega) (by decide) (by decide) (by omega) w
          refine o_callv (w0 := iaN qw cI 24 w) (wr := ia14 qg cI ga ++ ia40 qm cI m9) (va_runS (As := [.ref (qw 0), .int (nI (3 * i9)), .int 3, .int (nI (3 * Wn))]) (rest := []) ⟨hx, hb, hml, hown, hts⟩ (mL_closes l dC dI cI cB cO cL qw 24 w (nI (3 * i9)) 3 (nI (3 * Wn)) (gD_subT (hG.1 6) [2] rfl rfl) hkc) (va_cwS 4 hts (gT_in gQ_L_closes_64) rfl rfl rfl (by decide +kernel) ⟨Nat.le_of_ble_eq_true rfl, Nat.le_of_ble_eq_true rfl⟩) ⟨gP_blind, gP_ok (va_P_qw hW) hK⟩ rfl rfl hl.1 rfl (lv_room (Nat.le_of_ble_eq_true rfl)) dL_acts_763 ⟨(by omega : 0 + 0 ≤ 5), (by omega : 0 + 0 ≤ 84)⟩) hI (va_P_qwr hW) (gC_qw hG) (fun q h => Or.inl (mem_wA h)) (fun q h => Or.inl (mem_wA h)) (fun q h => (hG.1 6).2 q (by rw [List.mem_singleton.mp h]; show _ ∈ [qg 0, qm 0, qw 0]; simp)) hA hS (fun v9 H locs hp9 hW0 hWr hI hS => ?_)
          have hW : va_P (dC, dI) vwCl (arW qg qm qw cI ga m9 v9) H := va_P_qwj hW0 hWr
          refine lv_aload_n hx hb dL_acts_766 rfl (lv_at hl 4 rfl) ?_
          refine lv_iload hx hb dL_acts_767 (lv_at hl 2 rfl) ?_
          refine lv_iload hx hb dL_acts_769 (lv_at hl 0 rfl) ?_
          obtain ⟨b1, u1, hf, hk, hU1, hD1⟩ := rem1_ok (g' := ga) (w' := v9) hD hU s9 kk hi9 (show ga 3 = nI (Wn - 1) from by rw [e_ga, upd_eq]) (fun q hq => by rw [e_ga, upd_ne _ _ (show q ≠ 3 by omega)]) (fun q => by rw [hp9]; exact hcl q)
          have f12 := And.intro hf hk
          refine w_drops (R := rL_acts) (cells := 0) (slots := 0) (wo := arW qg qm qw cI ga m9 v9) hfl hx hb hml hown hts hK hF hC hN hG hA rfl hN0 hS hI hW f12.1 f12.2 (Or.inl rfl) ⟨Nat.le_of_ble_eq_true rfl, Nat.le_of_ble_eq_true rfl⟩ (nI (Wn - 1)) (rfl) (Nat.le_of_ble_eq_true rfl) hl.1 dL_acts_771 ⟨(by omega : 0 + 4 ≤ 5), (by omega : 0 + 24 ≤ 84)⟩ (fun H locs hI hW hS => ?_)
          refine lv_iload hx hb dL_acts_774 (lv_at hl 1 rfl) ?_
          refine lv_iconst (v := 1) hx hb dL_acts_776 (by decide) ?_
          refine lv_isub hx hb dL_acts_777 ?_
          refine tp_i (show ((nI Wn) - (1 : Int32)) = nI (Wn - 1) from pk_sub (show 1 ≤ Wn from by omega)) ?_
          refine lv_icmp_ne (tgt := 785) hx hb dL_acts_778 (by decide) (fun h => absurd (rfl) h) (fun _ => ?_)
          refine lv_iconst (v := 1) hx hb dL_acts_781 (by decide) ?_
          refine lv_goto (tgt := 786) hx hb dL_acts_782 (by decide) ?_
          exact hend 786 _ _ _ _ _ (b1, (pX8_outdate s9), u1, tr, te) ga m9 v9 ⟨Cn, Rn, Mn, Wn - 1, Nn, hD1, SVI_old _ _ _, hU1⟩ hI hW hS (by omega) (by omega) dL_acts_786
        · refine lv_if_le (tgt := 667) hx hb dL_acts_645 (by decide) (fun h => absurd h (nI_nle (n := vn % 4) (by omega) (by omega))) (fun _ => ?_)
          exact K648 _ (lv_sub hl [0, 1, 2, 3, 4, 5, 6, 7] rfl)
    · refine tp_i (show nI (vn % 3) = (2 : Int32) from by rw [hk3]; rfl) ?_
      refine lv_istore (lv' := [(11, .int 2), (5, .int (nI vn)), (0, .ref (qk 0)), (1, .ref (qg 0)), (2, .ref (qm 0)), (3, .ref (qw 0)), (4, .int z)]) hx hb dL_acts_626 hl (by decide) rfl (fun ls hl => ?_)
      refine lv_aload_n hx hb dL_acts_628 rfl (lv_at hl 3 rfl) ?_
      refine lv_iconst (v := 2) hx hb dL_acts_629 (by decide) ?_
      refine lv_iload hx hb dL_acts_630 (lv_at hl 0 rfl) ?_
      refine lv_iadd hx hb dL_acts_632 ?_
      refine tp_i (show ((2 : Int32) + (2 : Int32)) = (4 : Int32) from by decide) ?_
      refine g_ialdK (D := (dC, dI)) (tys := tYS cI cB cO cL) (k := 4) hx hb hK hW 0 0 rfl rfl (by decide) (by decide) (by decide) dL_acts_633 ?_
      refine tp_i (show (g 4) = nI Nn from hD.1.eN) ?_
      refine lv_istore (lv' := [(12, .int (nI Nn)), (11, .int 2), (5, .int (nI vn)), (0, .ref (qk 0)), (1, .ref (qg 0)), (2, .ref (qm 0)), (3, .ref (qw 0)), (4, .int z)]) hx hb dL_acts_634 hl (by decide) rfl (fun ls hl => ?_)
      refine lv_iload hx hb dL_acts_636 (lv_at hl 0 rfl) ?_
      have K648 : ∀ ls : Array Slot, lv_has ls 20 [(12, .int (nI Nn)), (11, .int 2), (5, .int (nI vn)), (0, .ref (qk 0)), (1, .ref (qg 0)), (2, .ref (qm 0)), (3, .ref (qw 0)), (4, .int z)] → W p l e rL_acts s m ([.ref (qk 0), .ref (qg 0), .ref (qm 0), .ref (qw 0), .int z] : List Value).toArray below meth c s.heap [] (0) (0) QQ (F0 m 648 ls []) := by
        intro ls hl
        refine lv_aload_n hx hb dL_acts_648 rfl (lv_at hl 3 rfl) ?_
        refine lv_iload hx hb dL_acts_649 (lv_at hl 1 rfl) ?_
        refine lv_iload hx hb dL_acts_651 (lv_at hl 0 rfl) ?_
        have f13 := rem2_no hD.1 s9 u kk
        refine w_drops (R := rL_acts) (cells := 0) (slots := 0) (wo := arW qg qm qw cI g m9 w) hfl hx hb hml hown hts hK hF hC hN hG hA rfl hN0 hS hI hW f13.1 f13.2 (Or.inr (Or.inr rfl)) ⟨Nat.le_of_ble_eq_true rfl, Nat.le_of_ble_eq_true rfl⟩ ((-100000001)) (rfl) (Nat.le_of_ble_eq_true rfl) hl.1 dL_acts_653 ⟨(by omega : 0 + 4 ≤ 5), (by omega : 0 + 24 ≤ 84)⟩ (fun H locs hI hW hS => ?_)
        refine lv_ldc (v := (-100000001)) hx hb hown (hts (.constant RL 63 (-100000001)) (gTt tw521)) dL_acts_656 ?_
        refine lv_icmp_ne (tgt := 665) hx hb dL_acts_658 (by decide) (fun h => absurd (rfl) h) (fun _ => ?_)
        refine lv_iconst (v := 1) hx hb dL_acts_661 (by decide) ?_
        refine lv_goto (tgt := 666) hx hb dL_acts_662 (by decide) ?_
        exact hend 666 _ _ _ _ _ (b, s9, u, tr, te) g m9 w ⟨Cn, Rn, Mn, Wn, Nn, hD, hV, hU⟩ hI hW hS (by omega) (by omega) dL_acts_666
      by_cases h0 : Nn = 0
      · refine lv_if_eq (tgt := 648) hx hb dL_acts_638 (by decide) (fun _ => ?_) (fun h => absurd (show nI Nn = 0 by rw [h0]; rfl) h)
        exact K648 _ (lv_sub hl [0, 1, 2, 3, 4, 5, 6, 7] rfl)
      · refine lv_if_eq (tgt := 648) hx hb dL_acts_638 (by decide) (fun h => absurd h (nI_ne0 (n := Nn) (by omega) (by omega))) (fun _ => ?_)
        refine lv_iload hx hb dL_acts_641 (lv_at hl 2 rfl) ?_
        refine lv_iconst (v := 4) hx hb dL_acts_643 (by decide) ?_
        refine lv_irem hx hb dL_acts_644 (by decide) ?_
        refine tp_i (show ((nI vn) - (nI vn) / (4 : Int32) * (4 : Int32)) = nI (vn % 4) from nx_rem (a := vn) (d := 4) (by omega) (by omega) (by omega)) ?_
        by_cases h4 : vn % 4 = 0
        · refine lv_if_le (tgt := 667) hx hb dL_acts_645 (by decide) (fun _ => ?_) (fun h => absurd (show nI (vn % 4) ≤ 0 by rw [h4]; decide) h)
          have hX : 0 < Nn := by omega
          refine lv_iload hx hb dL_acts_667 (lv_at hl 2 rfl) ?_
          refine lv_bipush (v := 12) hx hb dL_acts_669 (by decide) ?_
          refine lv_idiv hx hb dL_acts_671 (by decide) ?_
          refine tp_i (show ((nI vn) / (12 : Int32)) = nI (vn / 12) from nx_div (a := vn) (d := 12) (by omega) (by omega) (by omega)) ?_
          refine lv_iload hx hb dL_acts_672 (lv_at hl 0 rfl) ?_
          refine lv_irem hx hb dL_acts_674 (nI_ne0 (by omega) (by omega)) ?_
          refine tp_i (show ((nI (vn / 12)) - (nI (vn / 12)) / (nI Nn) * (nI Nn)) = nI ((vn / 12) % Nn) from nx_rem (a := vn / 12) (d := Nn) (by omega) (by omega) (by omega)) ?_
          obtain ⟨i9, hi9, ei9⟩ : ∃ i, i < Nn ∧ nI (vn / 12 % Nn) = nI i := ⟨_, Nat.mod_lt _ hX, rfl⟩
          refine tp_i (show nI ((vn / 12) % Nn) = nI i9 from ei9) ?_
          refine lv_istore (lv' := [(13, .int (nI i9)), (12, .int (nI Nn)), (11, .int 2), (5, .int (nI vn)), (0, .ref (qk 0)), (1, .ref (qg 0)), (2, .ref (qm 0)), (3, .ref (qw 0)), (4, .int z)]) hx hb dL_acts_675 hl (by decide) rfl (fun ls hl => ?_)
          refine lv_aload_n hx hb dL_acts_677 rfl (lv_at hl 5 rfl) ?_
          refine lv_iconst (v := 2) hx hb dL_acts_678 (by decide) ?_
          refine lv_iload hx hb dL_acts_679 (lv_at hl 2 rfl) ?_
          refine lv_iadd hx hb dL_acts_681 ?_
          refine tp_i (show ((2 : Int32) + (2 : Int32)) = (4 : Int32) from by decide) ?_
          refine lv_dup2_11 hx hb dL_acts_682 rfl rfl ?_
          refine g_ialdK (D := (dC, dI)) (tys := tYS cI cB cO cL) (k := 4) hx hb hK hW 0 0 rfl rfl (by decide) (by decide) (by decide) dL_acts_683 ?_
          refine tp_i (show (g 4) = nI Nn from hD.1.eN) ?_
          refine lv_iconst (v := 1) hx hb dL_acts_684 (by decide) ?_
          refine lv_isub hx hb dL_acts_685 ?_
          refine tp_i (show ((nI Nn) - (1 : Int32)) = nI (Nn - 1) from pk_sub (show 1 ≤ Nn from by omega)) ?_
          refine o_iast (D := (dC, dI)) (tys := tYS cI cB cO cL) (k := 4) hx hb hK hG hI hW hS rfl 0 0 rfl rfl (by decide) (by decide) (by decide) dL_acts_686 (fun H locs hI hW hS => ?_)
          obtain ⟨ga, e_ga⟩ : ∃ z9 : Nat → Int32, z9 = upd g 4 (nI (Nn - 1)) := ⟨_, rfl⟩
          have hW : va_P (dC, dI) vwCl (arW qg qm qw cI ga m9 w) H := by rw [e_ga]; exact hW
          refine lv_iload hx hb dL_acts_687 (lv_at hl 2 rfl) ?_
          refine lv_if_ne (tgt := 711) hx hb dL_acts_689 (by decide) (fun _ => ?_) (fun h => absurd h (by decide))
          refine lv_aload_n hx hb dL_acts_711 rfl (lv_at hl 7 rfl) ?_
          refine lv_iload hx hb dL_acts_712 (lv_at hl 2 rfl) ?_
          refine lv_iconst (v := 1) hx hb dL_acts_714 (by decide) ?_
          refine lv_icmp_ne (tgt := 725) hx hb dL_acts_715 (by decide) (fun _ => ?_) (fun h => absurd h (by decide))
          refine lv_bipush (v := 12) hx hb dL_acts_725 (by decide) ?_
          refine lv_iconst (v := 4) hx hb dL_acts_727 (by decide) ?_
          refine lv_iload hx hb dL_acts_728 (lv_at hl 0 rfl) ?_
          refine lv_imul hx hb dL_acts_730 ?_
          refine tp_i (show ((4 : Int32) * (nI i9)) = nI (4 * i9) from pk_mul 4 i9) ?_
          refine lv_iadd hx hb dL_acts_731 ?_
          refine tp_i (show ((12 : Int32) + (nI (4 * i9))) = nI (12 + 4 * i9) from nI_add 12 (4 * i9)) ?_
          refine lv_iload hx hb dL_acts_732 (lv_at hl 2 rfl) ?_
          refine lv_iconst (v := 1) hx hb dL_acts_734 (by decide) ?_
          refine lv_icmp_ne (tgt := 742) hx hb dL_acts_735 (by decide) (fun _ => ?_) (fun h => absurd h (by decide))
          refine lv_iconst (v := 4) hx hb dL_acts_742 (by decide) ?_
          refine lv_iload hx hb dL_acts_743 (lv_at hl 2 rfl) ?_
          refine lv_iconst (v := 1) hx hb dL_acts_745 (by decide) ?_
          refine lv_icmp_ne (tgt := 756) hx hb dL_acts_746 (by decide) (fun _ => ?_) (fun h => absurd h (by decide))
          refine lv_bipush (v := 12) hx hb dL_acts_756 (by decide) ?_
          refine lv_iconst (v := 4) hx hb dL_acts_758 (by decide) ?_
          refine lv_iload hx hb dL_acts_759 (lv_at hl 1 rfl) ?_
          refine lv_imul hx hb dL_acts_761 ?_
          refine tp_i (show ((4 : Int32) * (nI Nn)) = nI (4 * Nn) from pk_mul 4 Nn) ?_
          refine lv_iadd hx hb dL_acts_762 ?_
          refine tp_i (show ((12 : Int32) + (nI (4 * Nn))) = nI (12 + 4 * Nn) from nI_add 12 (4 * Nn)) ?_
          obtain ⟨hkc, hcl⟩ := closes_eq (len := 24) (wd := 4) (E := 12 + 4 * Nn) (q := 12 + 4 * i9) (by decide) (by omega) (by decide) (by decide) (by omega) w
          refine o_callv (w0 := iaN qw cI 24 w) (wr := ia14 qg cI ga ++ ia40 qm cI m9) (va_runS (As := [.ref (qw 0), .int (nI (12 + 4 * i9)), .int 4, .int (nI (12 + 4 * Nn))]) (rest := []) ⟨hx, hb, hml, hown, hts⟩ (mL_closes l dC dI cI cB cO cL qw 24 w (nI (12 + 4 * i9)) 4 (nI (12 + 4 * Nn)) (gD_subT (hG.1 6) [2] rfl rfl) hkc) (va_cwS 4 hts (gT_in gQ_L_closes_64) rfl rfl rfl (by decide +kernel) ⟨Nat.le_of_ble_eq_true rfl, Nat.le_of_ble_eq_true rfl⟩) ⟨gP_blind, gP_ok (va_P_qw hW) hK⟩ rfl rfl hl.1 rfl (lv_room (Nat.le_of_ble_eq_true rfl)) dL_acts_763 ⟨(by omega : 0 + 0 ≤ 5), (by omega : 0 + 0 ≤ 84)⟩) hI (va_P_qwr hW) (gC_qw hG) (fun q h => Or.inl (mem_wA h)) (fun q h => Or.inl (mem_wA h)) (fun q h => (hG.1 6).2 q (by rw [List.mem_singleton.mp h]; show _ ∈ [qg 0, qm 0, qw 0]; simp)) hA hS (fun v9 H locs hp9 hW0 hWr hI hS => ?_)
          have hW : va_P (dC, dI) vwCl (arW qg qm qw cI ga m9 v9) H := va_P_qwj hW0 hWr
          refine lv_aload_n hx hb dL_acts_766 rfl (lv_at hl 4 rfl) ?_
          refine lv_iload hx hb dL_acts_767 (lv_at hl 2 rfl) ?_
          refine lv_iload hx hb dL_acts_769 (lv_at hl 0 rfl) ?_
          obtain ⟨b1, u1, hf, hk, hU1, hD1⟩ := rem2_ok (g' := ga) (w' := v9) hD hU s9 kk hi9 (show ga 4 = nI (Nn - 1) from by rw [e_ga, upd_eq]) (fun q hq => by rw [e_ga, upd_ne _ _ (show q ≠ 4 by omega)]) (fun q => by rw [hp9]; exact hcl q)
          have f14 := And.intro hf hk
          refine w_drops (R := rL_acts) (cells := 0) (slots := 0) (wo := arW qg qm qw cI ga m9 v9) hfl hx hb hml hown hts hK hF hC hN hG hA rfl hN0 hS hI hW f14.1 f14.2 (Or.inl rfl) ⟨Nat.le_of_ble_eq_true rfl, Nat.le_of_ble_eq_true rfl⟩ (nI (Nn - 1)) (rfl) (Nat.le_of_ble_eq_true rfl) hl.1 dL_acts_771 ⟨(by omega : 0 + 4 ≤ 5), (by omega : 0 + 24 ≤ 84)⟩ (fun H locs hI hW hS => ?_)
          refine lv_iload hx hb dL_acts_774 (lv_at hl 1 rfl) ?_
          refine lv_iconst (v := 1) hx hb dL_acts_776 (by decide) ?_
          refine lv_isub hx hb dL_acts_777 ?_
          refine tp_i (show ((nI Nn) - (1 : Int32)) = nI (Nn - 1) from pk_sub (show 1 ≤ Nn from by omega)) ?_
          refine lv_icmp_ne (tgt := 785) hx hb dL_acts_778 (by decide) (fun h => absurd (rfl) h) (fun _ => ?_)
          refine lv_iconst (v := 1) hx hb dL_acts_781 (by decide) ?_
          refine lv_goto (tgt := 786) hx hb dL_acts_782 (by decide) ?_
          exact hend 786 _ _ _ _ _ (b1, (pX8_outdate s9), u1, tr, te) ga m9 v9 ⟨Cn, Rn, Mn, Wn, Nn - 1, hD1, SVI_old _ _ _, hU1⟩ hI hW hS (by omega) (by omega) dL_acts_786
        · refine lv_if_le (tgt := 667) hx hb dL_acts_645 (by decide) (fun h => absurd h (nI_nle (n := vn % 4) (by omega) (by omega))) (fun _ => ?_)
          exact K648 _ (lv_sub hl [0, 1, 2, 3, 4, 5, 6, 7] rfl)
  have K787 : ∀ ls : Array Slot, lv_has ls 20 [(5, .int (nI vn)), (0, .ref (qk 0)), (1, .ref (qg 0)), (2, .ref (qm 0)), (3, .ref (qw 0)), (4, .int z)] → W p l e rL_acts s m ([.ref (qk 0), .ref (qg 0), .ref (qm 0), .ref (qw 0), .int z] : List Value).toArray below meth c s.heap [] (0) (0) QQ (F0 m 787 ls []) := by
    intro ls hl
    have hk7 : vn % 7 < 7 := Nat.mod_lt _ (by decide)
    obtain ⟨hlh, hh9⟩ := loN_le hk7
    have hsB := sB_in vn
    refine lv_iload hx hb dL_acts_787 (lv_at hl 0 rfl) ?_
    refine lv_bipush (v := 7) hx hb dL_acts_789 (by decide) ?_
    refine lv_irem hx hb dL_acts_791 (by decide) ?_
    refine tp_i (show ((nI vn) - (nI vn) / (7 : Int32) * (7 : Int32)) = nI (vn % 7) from nx_rem (a := vn) (d := 7) (by omega) (by omega) (by omega)) ?_
    refine lv_istore (lv' := [(14, .int (nI (vn % 7))), (5, .int (nI vn)), (0, .ref (qk 0)), (1, .ref (qg 0)), (2, .ref (qm 0)), (3, .ref (qw 0)), (4, .int z)]) hx hb dL_acts_792 hl (by decide) rfl (fun ls hl => ?_)
    refine lv_iload hx hb dL_acts_794 (lv_at hl 0 rfl) ?_
    refine gro_i (va_runS (As := [.int (nI (vn % 7))]) (rest := []) ⟨hx, hb, hml, hown, hts⟩ (mL_least l dC dI cI cB cO cL (nI (vn % 7))) (va_cwS 1 hts (gT_in gQ_L_least_68) rfl rfl rfl (by decide +kernel) ⟨Nat.le_of_ble_eq_true rfl, Nat.le_of_ble_eq_true rfl⟩) ⟨gP_blind, gP_ok va_P_nil hK⟩ rfl rfl hl.1 rfl (lv_room (Nat.le_of_ble_eq_true rfl)) dL_acts_796 ⟨(by omega : 0 + 0 ≤ 5), (by omega : 0 + 0 ≤ 84)⟩) ?_
    refine tp_i (show (pL_least (nI (vn % 7))) = nI (loN (vn % 7)) from least_eq hk7) ?_
    refine lv_iload hx hb dL_acts_799 (lv_at hl 1 rfl) ?_
    refine lv_bipush (v := 7) hx hb dL_acts_801 (by decide) ?_
    refine lv_idiv hx hb dL_acts_803 (by decide) ?_
    refine tp_i (show ((nI vn) / (7 : Int32)) = nI (vn / 7) from nx_div (a := vn) (d := 7) (by omega) (by omega) (by omega)) ?_
    refine lv_iload hx hb dL_acts_804 (lv_at hl 0 rfl) ?_
    refine gro_i (va_runS (As := [.int (nI (vn % 7))]) (rest := [.int (nI (vn / 7)), .int (nI (loN (vn % 7)))]) ⟨hx, hb, hml, hown, hts⟩ (mL_most l dC dI cI cB cO cL (nI (vn % 7))) (va_cwS 1 hts (gT_in gQ_L_most_71) rfl rfl rfl (by decide +kernel) ⟨Nat.le_of_ble_eq_true rfl, Nat.le_of_ble_eq_true rfl⟩) ⟨gP_blind, gP_ok va_P_nil hK⟩ rfl rfl hl.1 rfl (lv_room (Nat.le_of_ble_eq_true rfl)) dL_acts_806 ⟨(by omega : 0 + 0 ≤ 5), (by omega : 0 + 0 ≤ 84)⟩) ?_
    refine tp_i (show (pL_most (nI (vn % 7))) = nI (hiN (vn % 7)) from most_eq hk7) ?_
    refine lv_iload hx hb dL_acts_809 (lv_at hl 0 rfl) ?_
    refine gro_i (va_runS (As := [.int (nI (vn % 7))]) (rest := [.int (nI (hiN (vn % 7))), .int (nI (vn / 7)), .int (nI (loN (vn % 7)))]) ⟨hx, hb, hml, hown, hts⟩ (mL_least l dC dI cI cB cO cL (nI (vn % 7))) (va_cwS 1 hts (gT_in gQ_L_least_68) rfl rfl rfl (by decide +kernel) ⟨Nat.le_of_ble_eq_true rfl, Nat.le_of_ble_eq_true rfl⟩) ⟨gP_blind, gP_ok va_P_nil hK⟩ rfl rfl hl.1 rfl (lv_room (Nat.le_of_ble_eq_true rfl)) dL_acts_811 ⟨(by omega : 0 + 0 ≤ 5), (by omega : 0 + 0 ≤ 84)⟩) ?_
    refine tp_i (show (pL_least (nI (vn % 7))) = nI (loN (vn % 7)) from least_eq hk7) ?_
    refine lv_isub hx hb dL_acts_814 ?_
    refine tp_i (show ((nI (hiN (vn % 7))) - (nI (loN (vn % 7)))) = nI (hiN (vn % 7) - (loN (vn % 7))) from pk_sub (show loN (vn % 7) ≤ hiN (vn % 7) from by omega)) ?_
    refine lv_iconst (v := 1) hx hb dL_acts_815 (by decide) ?_
    refine lv_iadd hx hb dL_acts_816 ?_
    refine tp_i (show ((nI (hiN (vn % 7) - (loN (vn % 7)))) + (1 : Int32)) = nI (hiN (vn % 7) - (loN (vn % 7)) + 1) from nI_add (hiN (vn % 7) - (loN (vn % 7))) 1) ?_
    refine lv_irem hx hb dL_acts_817 (nI_ne0 (by omega) (by omega)) ?_
    refine tp_i (show ((nI (vn / 7)) - (nI (vn / 7)) / (nI (hiN (vn % 7) - (loN (vn % 7)) + 1)) * (nI (hiN (vn % 7) - (loN (vn % 7)) + 1))) = nI ((vn / 7) % (hiN (vn % 7) - (loN (vn % 7)) + 1)) from nx_rem (a := vn / 7) (d := hiN (vn % 7) - (loN (vn % 7)) + 1) (by omega) (by omega) (by omega)) ?_
    refine lv_iadd hx hb dL_acts_818 ?_
    refine tp_i (show ((nI (loN (vn % 7))) + (nI ((vn / 7) % (hiN (vn % 7) - (loN (vn % 7)) + 1)))) = nI (loN (vn % 7) + (vn / 7) % (hiN (vn % 7) - (loN (vn % 7)) + 1)) from nI_add (loN (vn % 7)) ((vn / 7) % (hiN (vn % 7) - (loN (vn % 7)) + 1))) ?_
    refine tp_i (show nI (loN (vn % 7) + (vn / 7) % (hiN (vn % 7) - (loN (vn % 7)) + 1)) = nI (sB vn) from rfl) ?_
    refine lv_istore (lv' := [(15, .int (nI (sB vn))), (14, .int (nI (vn % 7))), (5, .int (nI vn)), (0, .ref (qk 0)), (1, .ref (qg 0)), (2, .ref (qm 0)), (3, .ref (qw 0)), (4, .int z)]) hx hb dL_acts_819 hl (by decide) rfl (fun ls hl => ?_)
    have J859 : ∀ ls : Array Slot, lv_has ls 20 [(15, .int (nI (sB vn))), (14, .int (nI (vn % 7))), (5, .int (nI vn)), (0, .ref (qk 0)), (1, .ref (qg 0)), (2, .ref (qm 0)), (3, .ref (qw 0)), (4, .int z)] → W p l e rL_acts s m ([.ref (qk 0), .ref (qg 0), .ref (qm 0), .ref (qw 0), .int z] : List Value).toArray below meth c s.heap [] (0) (0) QQ (F0 m 859 ls [.int (nI (sV vn))]) := by
      intro ls hl
      have hsV := sV_in vn
      refine lv_istore (lv' := [(15, .int (nI (sV vn))), (14, .int (nI (vn % 7))), (5, .int (nI vn)), (0, .ref (qk 0)), (1, .ref (qg 0)), (2, .ref (qm 0)), (3, .ref (qw 0)), (4, .int z)]) hx hb dL_acts_859 hl (by decide) rfl (fun ls hl => ?_)
      refine lv_aload_n hx hb dL_acts_861 rfl (lv_at hl 4 rfl) ?_
      refine lv_bipush (v := 7) hx hb dL_acts_862 (by decide) ?_
      refine lv_iload hx hb dL_acts_864 (lv_at hl 1 rfl) ?_
      refine lv_iadd hx hb dL_acts_866 ?_
      refine tp_i (show ((7 : Int32) + (nI (vn % 7))) = nI (7 + vn % 7) from nI_add 7 (vn % 7)) ?_
      refine g_ialdK (D := (dC, dI)) (tys := tYS cI cB cO cL) (k := 7 + vn % 7) hx hb hK hW 0 0 rfl rfl (nI_clamp (by omega)) (nI_pos (by omega)) (by omega) dL_acts_867 ?_
      refine lv_istore (lv' := [(16, .int (g (7 + vn % 7))), (15, .int (nI (sV vn))), (14, .int (nI (vn % 7))), (5, .int (nI vn)), (0, .ref (qk 0)), (1, .ref (qg 0)), (2, .ref (qm 0)), (3, .ref (qw 0)), (4, .int z)]) hx hb dL_acts_868 hl (by decide) rfl (fun ls hl => ?_)
      refine lv_aload_n hx hb dL_acts_870 rfl (lv_at hl 5 rfl) ?_
      refine lv_bipush (v := 7) hx hb dL_acts_871 (by decide) ?_
      refine lv_iload hx hb dL_acts_873 (lv_at hl 2 rfl) ?_
      refine lv_iadd hx hb dL_acts_875 ?_
      refine tp_i (show ((7 : Int32) + (nI (vn % 7))) = nI (7 + vn % 7) from nI_add 7 (vn % 7)) ?_
      refine lv_iload hx hb dL_acts_876 (lv_at hl 1 rfl) ?_
      refine o_iast (D := (dC, dI)) (tys := tYS cI cB cO cL) (k := 7 + vn % 7) hx hb hK hG hI hW hS rfl 0 0 rfl rfl (nI_clamp (by omega)) (nI_pos (by omega)) (by omega) dL_acts_878 (fun H locs hI hW hS => ?_)
      obtain ⟨ga, e_ga⟩ : ∃ z9 : Nat → Int32, z9 = upd g (7 + vn % 7) (nI (sV vn)) := ⟨_, rfl⟩
      have hW : va_P (dC, dI) vwCl (arW qg qm qw cI ga m9 w) H := by rw [e_ga]; exact hW
      refine lv_aload_n hx hb dL_acts_879 rfl (lv_at hl 4 rfl) ?_
      refine lv_iload hx hb dL_acts_880 (lv_at hl 2 rfl) ?_
      refine lv_iload hx hb dL_acts_882 (lv_at hl 1 rfl) ?_
      obtain ⟨b1, u1, hf, hk, hU1, hD1⟩ := set_ok hD hU s9 kk hk7 (sV_rg vn)
      rw [← e_ga] at hD1
      have f15 := And.intro hf hk
      refine w_sets (R := rL_acts) (cells := 0) (slots := 0) (wo := arW qg qm qw cI ga m9 w) hfl hx hb hml hown hts hK hF hC hN hG hA rfl hN0 hS hI hW f15.1 f15.2 (Or.inl rfl) ⟨Nat.le_of_ble_eq_true rfl, Nat.le_of_ble_eq_true rfl⟩ ((g (7 + vn % 7))) (rfl) (Nat.le_of_ble_eq_true rfl) hl.1 dL_acts_884 ⟨(by omega : 0 + 4 ≤ 5), (by omega : 0 + 24 ≤ 84)⟩ (fun H locs hI hW hS => ?_)
      refine lv_iload hx hb dL_acts_887 (lv_at hl 0 rfl) ?_
      refine lv_icmp_ne (tgt := 896) hx hb dL_acts_889 (by decide) (fun h => absurd (rfl) h) (fun _ => ?_)
      refine lv_iconst (v := 1) hx hb dL_acts_892 (by decide) ?_
      refine lv_goto (tgt := 897) hx hb dL_acts_893 (by decide) ?_
      exact hend 897 _ _ _ _ _ (b1, (pX8_outdate s9), u1, tr, te) ga m9 w ⟨Cn, Rn, Mn, Wn, Nn, hD1, SVI_old _ _ _, hU1⟩ hI hW hS (by omega) (by omega) dL_acts_897
    refine lv_iload hx hb dL_acts_821 (lv_at hl 1 rfl) ?_
    refine lv_iconst (v := 2) hx hb dL_acts_823 (by decide) ?_
    by_cases h2 : vn % 7 = 2
    · refine lv_icmp_ne (tgt := 842) hx hb dL_acts_824 (by decide) (fun h => absurd (show nI (vn % 7) = (2 : Int32) by rw [h2]; rfl) h) (fun _ => ?_)
      refine lv_iload hx hb dL_acts_827 (lv_at hl 2 rfl) ?_
      refine lv_iconst (v := 3) hx hb dL_acts_829 (by decide) ?_
      refine lv_irem hx hb dL_acts_830 (by decide) ?_
      refine tp_i (show ((nI vn) - (nI vn) / (3 : Int32) * (3 : Int32)) = nI (vn % 3) from nx_rem (a := vn) (d := 3) (by omega) (by omega) (by omega)) ?_
      by_cases h3 : vn % 3 = 0
      · refine lv_if_le (tgt := 842) hx hb dL_acts_831 (by decide) (fun _ => ?_) (fun h => absurd (show nI (vn % 3) ≤ 0 by rw [h3]; decide) h)
        refine lv_iload hx hb dL_acts_842 (lv_at hl 1 rfl) ?_
        refine lv_iconst (v := 4) hx hb dL_acts_844 (by decide) ?_
        by_cases h4 : vn % 7 = 4
        · refine lv_icmp_ne (tgt := 857) hx hb dL_acts_845 (by decide) (fun h => absurd (show nI (vn % 7) = (4 : Int32) by rw [h4]; rfl) h) (fun _ => ?_)
          refine lv_iload hx hb dL_acts_848 (lv_at hl 0 rfl) ?_
          refine lv_sipush (v := 150) hx hb dL_acts_850 (by decide) ?_
          refine lv_irem hx hb dL_acts_853 (by decide) ?_
          refine tp_i (show ((nI (sB vn)) - (nI (sB vn)) / (150 : Int32) * (150 : Int32)) = nI ((sB vn) % 150) from nx_rem (a := sB vn) (d := 150) (by omega) (by omega) (by omega)) ?_
          refine lv_goto (tgt := 859) hx hb dL_acts_854 (by decide) ?_
          refine tp_i (show nI ((sB vn) % 150) = nI (sV vn) from congrArg nI (sV_b h4).symm) ?_
          exact J859 _ (lv_sub hl [0, 1, 2, 3, 4, 5, 6, 7] rfl)
        · refine lv_icmp_ne (tgt := 857) hx hb dL_acts_845 (by decide) (fun _ => ?_) (fun h => absurd ((nI_eq (a := vn % 7) (b := 4) (by omega) (by decide)).mp h) h4)
          refine lv_iload hx hb dL_acts_857 (lv_at hl 0 rfl) ?_
          refine tp_i (show nI (sB vn) = nI (sV vn) from congrArg nI (sV_c (by omega) h4).symm) ?_
          exact J859 _ (lv_sub hl [0, 1, 2, 3, 4, 5, 6, 7] rfl)
      · refine lv_if_le (tgt := 842) hx hb dL_acts_831 (by decide) (fun h => absurd h (nI_nle (n := vn % 3) (by omega) (by omega))) (fun _ => ?_)
        refine lv_iload hx hb dL_acts_834 (lv_at hl 0 rfl) ?_
        refine lv_bipush (v := 30) hx hb dL_acts_836 (by decide) ?_
        refine lv_irem hx hb dL_acts_838 (by decide) ?_
        refine tp_i (show ((nI (sB vn)) - (nI (sB vn)) / (30 : Int32) * (30 : Int32)) = nI ((sB vn) % 30) from nx_rem (a := sB vn) (d := 30) (by omega) (by omega) (by omega)) ?_
        refine lv_goto (tgt := 859) hx hb dL_acts_839 (by decide) ?_
        refine tp_i (show nI ((sB vn) % 30) = nI (sV vn) from congrArg nI (sV_a h2 (by omega)).symm) ?_
        exact J859 _ (lv_sub hl [0, 1, 2, 3, 4, 5, 6, 7] rfl)
    · refine lv_icmp_ne (tgt := 842) hx hb dL_acts_824 (by decide) (fun _ => ?_) (fun h => absurd ((nI_eq (a := vn % 7) (b := 2) (by omega) (by decide)).mp h) h2)
      refine lv_iload hx hb dL_acts_842 (lv_at hl 1 rfl) ?_
      refine lv_iconst (v := 4) hx hb dL_acts_844 (by decide) ?_
      by_cases h4 : vn % 7 = 4
      · refine lv_icmp_ne (tgt := 857) hx hb dL_acts_845 (by decide) (fun h => absurd (show nI (vn % 7) = (4 : Int32) by rw [h4]; rfl) h) (fun _ => ?_)
        refine lv_iload hx hb dL_acts_848 (lv_at hl 0 rfl) ?_
        refine lv_sipush (v := 150) hx hb dL_acts_850 (by decide) ?_
        refine lv_irem hx hb dL_acts_853 (by decide) ?_
        refine tp_i (show ((nI (sB vn)) - (nI (sB vn)) / (150 : Int32) * (150 : Int32)) = nI ((sB vn) % 150) from nx_rem (a := sB vn) (d := 150) (by omega) (by omega) (by omega)) ?_
        refine lv_goto (tgt := 859) hx hb dL_acts_854 (by decide) ?_
        refine tp_i (show nI ((sB vn) % 150) = nI (sV vn) from congrArg nI (sV_b h4).symm) ?_
        exact J859 _ (lv_sub hl [0, 1, 2, 3, 4, 5, 6, 7] rfl)
      · refine lv_icmp_ne (tgt := 857) hx hb dL_acts_845 (by decide) (fun _ => ?_) (fun h => absurd ((nI_eq (a := vn % 7) (b := 4) (by omega) (by decide)).mp h) h4)
        refine lv_iload hx hb dL_acts_857 (lv_at hl 0 rfl) ?_
        refine tp_i (show nI (sB vn) = nI (sV vn) from congrArg nI (sV_c (by omega) h4).symm) ?_
        exact J859 _ (lv_sub hl [0, 1, 2, 3, 4, 5, 6, 7] rfl)
  have K898 : ∀ ls : Array Slot, lv_has ls 20 [(5, .int (nI vn)), (0, .ref (qk 0)), (1, .ref (qg 0)), (2, .ref (qm 0)), (3, .ref (qw 0)), (4, .int z)] → W p l e rL_acts s m ([.ref (qk 0), .ref (qg 0), .ref (qm 0), .ref (qw 0), .int z] : List Value).toArray below meth c s.heap [] (0) (0) QQ (F0 m 898 ls []) := by
    intro ls hl
    refine lv_aload_n hx hb dL_acts_898 rfl (lv_at hl 2 rfl) ?_
    refine lv_bipush (v := 6) hx hb dL_acts_899 (by decide) ?_
    refine g_ialdK (D := (dC, dI)) (tys := tYS cI cB cO cL) (k := 6) hx hb hK hW 0 0 rfl rfl (by decide) (by decide) (by decide) dL_acts_901 ?_
    refine lv_istore (lv' := [(17, .int (g 6)), (5, .int (nI vn)), (0, .ref (qk 0)), (1, .ref (qg 0)), (2, .ref (qm 0)), (3, .ref (qw 0)), (4, .int z)]) hx hb dL_acts_902 hl (by decide) rfl (fun ls hl => ?_)
    refine lv_aload_n hx hb dL_acts_904 rfl (lv_at hl 3 rfl) ?_
    refine lv_bipush (v := 6) hx hb dL_acts_905 (by decide) ?_
    refine lv_iload hx hb dL_acts_907 (lv_at hl 1 rfl) ?_
    refine lv_sipush (v := 211) hx hb dL_acts_909 (by decide) ?_
    refine lv_imul hx hb dL_acts_912 ?_
    refine tp_i (show ((nI vn) * (211 : Int32)) = nI (vn * 211) from pk_mul vn 211) ?_
    refine o_iast (D := (dC, dI)) (tys := tYS cI cB cO cL) (k := 6) hx hb hK hG hI hW hS rfl 0 0 rfl rfl (by decide) (by decide) (by decide) dL_acts_913 (fun H locs hI hW hS => ?_)
    obtain ⟨ga, e_ga⟩ : ∃ z9 : Nat → Int32, z9 = upd g 6 (nI (vn * 211)) := ⟨_, rfl⟩
    have hW : va_P (dC, dI) vwCl (arW qg qm qw cI ga m9 w) H := by rw [e_ga]; exact hW
    refine lv_aload_n hx hb dL_acts_914 rfl (lv_at hl 2 rfl) ?_
    refine lv_aload_n hx hb dL_acts_915 rfl (lv_at hl 3 rfl) ?_
    refine lv_bipush (v := 6) hx hb dL_acts_916 (by decide) ?_
    refine g_ialdK (D := (dC, dI)) (tys := tYS cI cB cO cL) (k := 6) hx hb hK hW 0 0 rfl rfl (by decide) (by decide) (by decide) dL_acts_918 ?_
    refine tp_i (show (ga 6) = nI (vn * 211) from by rw [e_ga, upd_eq]) ?_
    obtain ⟨b1, u1, hf, hk, hU1, hD1⟩ := setS_ok (x := nI (vn * 211)) hD hU s9 kk (by rw [nI_toInt (by omega)]; omega)
    rw [← e_ga] at hD1
    have f16 := And.intro hf hk
    refine w_seeds (R := rL_acts) (cells := 0) (slots := 0) (wo := arW qg qm qw cI ga m9 w) hfl hx hb hml hown hts hK hF hC hN hG hA rfl hN0 hS hI hW f16.1 f16.2 (Or.inl rfl) ⟨Nat.le_of_ble_eq_true rfl, Nat.le_of_ble_eq_true rfl⟩ ((g 6)) (rfl) (Nat.le_of_ble_eq_true rfl) hl.1 dL_acts_919 ⟨(by omega : 0 + 4 ≤ 5), (by omega : 0 + 24 ≤ 84)⟩ (fun H locs hI hW hS => ?_)
    refine lv_iload hx hb dL_acts_922 (lv_at hl 0 rfl) ?_
    refine lv_icmp_ne (tgt := 931) hx hb dL_acts_924 (by decide) (fun h => absurd (rfl) h) (fun _ => ?_)
    refine lv_iconst (v := 1) hx hb dL_acts_927 (by decide) ?_
    refine lv_goto (tgt := 932) hx hb dL_acts_928 (by decide) ?_
    exact hend 932 _ _ _ _ _ (b1, (pX8_outdate s9), u1, tr, te) ga m9 w ⟨Cn, Rn, Mn, Wn, Nn, hD1, SVI_old _ _ _, hU1⟩ hI hW hS (by omega) (by omega) dL_acts_932
  have K933 : ∀ ls : Array Slot, lv_has ls 20 [(5, .int (nI vn)), (0, .ref (qk 0)), (1, .ref (qg 0)), (2, .ref (qm 0)), (3, .ref (qw 0)), (4, .int z)] → W p l e rL_acts s m ([.ref (qk 0), .ref (qg 0), .ref (qm 0), .ref (qw 0), .int z] : List Value).toArray below meth c s.heap [] (0) (0) QQ (F0 m 933 ls []) := by
    intro ls hl
    refine lv_aload_n hx hb dL_acts_933 rfl (lv_at hl 2 rfl) ?_
    refine lv_iconst (v := 2) hx hb dL_acts_934 (by decide) ?_
    refine g_ialdK (D := (dC, dI)) (tys := tYS cI cB cO cL) (k := 2) hx hb hK hW 0 0 rfl rfl (by decide) (by decide) (by decide) dL_acts_935 ?_
    refine tp_i (show (g 2) = nI Mn from hD.1.eM) ?_
    by_cases h0 : Mn = 0
    · subst h0
      refine lv_if_ne (tgt := 958) hx hb dL_acts_936 (by decide) (fun h => absurd rfl h) (fun _ => ?_)
      refine lv_aload_n hx hb dL_acts_939 rfl (lv_at hl 1 rfl) ?_
      refine lv_iconst (v := 0) hx hb dL_acts_940 (by decide) ?_
      refine lv_sipush (v := 999) hx hb dL_acts_941 (by decide) ?_
      have f17 := clock_no hD s9 u kk
      refine w_clocks (R := rL_acts) (cells := 0) (slots := 0) (wo := arW qg qm qw cI g m9 w) hfl hx hb hml hown hts hK hF hC hN hG hA rfl hN0 hS hI hW f17.1 f17.2 (Or.inr (Or.inl rfl)) ⟨Nat.le_of_ble_eq_true rfl, Nat.le_of_ble_eq_true rfl⟩ ((-100000001)) (rfl) (Nat.le_of_ble_eq_true rfl) hl.1 dL_acts_944 ⟨(by omega : 0 + 4 ≤ 5), (by omega : 0 + 24 ≤ 84)⟩ (fun H locs hI hW hS => ?_)
      refine lv_ldc (v := (-100000001)) hx hb hown (hts (.constant RL 63 (-100000001)) (gTt tw521)) dL_acts_947 ?_
      refine lv_icmp_ne (tgt := 956) hx hb dL_acts_949 (by decide) (fun h => absurd (rfl) h) (fun _ => ?_)
      refine lv_iconst (v := 1) hx hb dL_acts_952 (by decide) ?_
      refine lv_goto (tgt := 957) hx hb dL_acts_953 (by decide) ?_
      exact hend 957 _ _ _ _ _ (b, s9, u, tr, te) g m9 w ⟨Cn, Rn, 0, Wn, Nn, hD, hV, hU⟩ hI hW hS (by omega) (by omega) dL_acts_957
    · have hX : 0 < Mn := by omega
      refine lv_if_ne (tgt := 958) hx hb dL_acts_936 (by decide) (fun _ => ?_) (fun h => absurd h (nI_ne0 (n := Mn) hX (by omega)))
      refine lv_iload hx hb dL_acts_958 (lv_at hl 0 rfl) ?_
      refine lv_aload_n hx hb dL_acts_960 rfl (lv_at hl 2 rfl) ?_
      refine lv_iconst (v := 2) hx hb dL_acts_961 (by decide) ?_
      refine g_ialdK (D := (dC, dI)) (tys := tYS cI cB cO cL) (k := 2) hx hb hK hW 0 0 rfl rfl (by decide) (by decide) (by decide) dL_acts_962 ?_
      refine tp_i (show (g 2) = nI Mn from hD.1.eM) ?_
      refine lv_irem hx hb dL_acts_963 (nI_ne0 (by omega) (by omega)) ?_
      refine tp_i (show ((nI vn) - (nI vn) / (nI Mn) * (nI Mn)) = nI (vn % Mn) from nx_rem (a := vn) (d := Mn) (by omega) (by omega) (by omega)) ?_
      obtain ⟨i9, hi9, ei9⟩ : ∃ i, i < Mn ∧ nI (vn % Mn) = nI i := ⟨_, Nat.mod_lt _ hX, rfl⟩
      refine tp_i (show nI (vn % Mn) = nI i9 from ei9) ?_
      refine lv_istore (lv' := [(18, .int (nI i9)), (5, .int (nI vn)), (0, .ref (qk 0)), (1, .ref (qg 0)), (2, .ref (qm 0)), (3, .ref (qw 0)), (4, .int z)]) hx hb dL_acts_964 hl (by decide) rfl (fun ls hl => ?_)
      refine lv_aload_n hx hb dL_acts_966 rfl (lv_at hl 4 rfl) ?_
      refine lv_bipush (v := 10) hx hb dL_acts_967 (by decide) ?_
      refine lv_iload hx hb dL_acts_969 (lv_at hl 0 rfl) ?_
      refine lv_imul hx hb dL_acts_971 ?_
      refine tp_i (show ((10 : Int32) * (nI i9)) = nI (10 * i9) from pk_mul 10 i9) ?_
      refine lv_iconst (v := 2) hx hb dL_acts_972 (by decide) ?_
      refine lv_iadd hx hb dL_acts_973 ?_
      refine tp_i (show ((nI (10 * i9)) + (2 : Int32)) = nI (10 * i9 + 2) from nI_add (10 * i9) 2) ?_
      refine g_ialdK (D := (dC, dI)) (tys := tYS cI cB cO cL) (k := 10 * i9 + 2) hx hb hK hW 1 0 rfl rfl (nI_clamp (by omega)) (nI_pos (by omega)) (by omega) dL_acts_974 ?_
      refine lv_istore (lv' := [(19, .int (m9 (10 * i9 + 2))), (18, .int (nI i9)), (5, .int (nI vn)), (0, .ref (qk 0)), (1, .ref (qg 0)), (2, .ref (qm 0)), (3, .ref (qw 0)), (4, .int z)]) hx hb dL_acts_975 hl (by decide) rfl (fun ls hl => ?_)
      refine lv_aload_n hx hb dL_acts_977 rfl (lv_at hl 5 rfl) ?_
      refine lv_bipush (v := 10) hx hb dL_acts_978 (by decide) ?_
      refine lv_iload hx hb dL_acts_980 (lv_at hl 1 rfl) ?_
      refine lv_imul hx hb dL_acts_982 ?_
      refine tp_i (show ((10 : Int32) * (nI i9)) = nI (10 * i9) from pk_mul 10 i9) ?_
      refine lv_iconst (v := 2) hx hb dL_acts_983 (by decide) ?_
      refine lv_iadd hx hb dL_acts_984 ?_
      refine tp_i (show ((nI (10 * i9)) + (2 : Int32)) = nI (10 * i9 + 2) from nI_add (10 * i9) 2) ?_
      refine lv_iload hx hb dL_acts_985 (lv_at hl 2 rfl) ?_
      refine lv_iconst (v := 4) hx hb dL_acts_987 (by decide) ?_
      refine lv_idiv hx hb dL_acts_988 (by decide) ?_
      refine tp_i (show ((nI vn) / (4 : Int32)) = nI (vn / 4) from nx_div (a := vn) (d := 4) (by omega) (by omega) (by omega)) ?_
      refine lv_sipush (v := 1001) hx hb dL_acts_989 (by decide) ?_
      refine lv_irem hx hb dL_acts_992 (by decide) ?_
      refine tp_i (show ((nI (vn / 4)) - (nI (vn / 4)) / (1001 : Int32) * (1001 : Int32)) = nI ((vn / 4) % 1001) from nx_rem (a := vn / 4) (d := 1001) (by omega) (by omega) (by omega)) ?_
      refine lv_sipush (v := 500) hx hb dL_acts_993 (by decide) ?_
      refine lv_isub hx hb dL_acts_996 ?_
      obtain ⟨c9, ec9, hc9⟩ := off_g (j := vn / 4 % 1001) (a := 500) (by decide) (by omega)
      refine tp_i (show ((nI ((vn / 4) % 1001)) - (500 : Int32)) = c9 from ec9) ?_
      refine o_iast (D := (dC, dI)) (tys := tYS cI cB cO cL) (k := 10 * i9 + 2) hx hb hK hG hI hW hS rfl 1 0 rfl rfl (nI_clamp (by omega)) (nI_pos (by omega)) (by omega) dL_acts_997 (fun H locs hI hW hS => ?_)
      obtain ⟨pa, e_pa⟩ : ∃ z9 : Nat → Int32, z9 = upd m9 (10 * i9 + 2) c9 := ⟨_, rfl⟩
      have hW : va_P (dC, dI) vwCl (arW qg qm qw cI g pa w) H := by rw [e_pa]; exact hW
      refine lv_aload_n hx hb dL_acts_998 rfl (lv_at hl 3 rfl) ?_
      refine lv_iload hx hb dL_acts_999 (lv_at hl 1 rfl) ?_
      refine lv_aload_n hx hb dL_acts_1001 rfl (lv_at hl 5 rfl) ?_
      refine lv_bipush (v := 10) hx hb dL_acts_1002 (by decide) ?_
      refine lv_iload hx hb dL_acts_1004 (lv_at hl 1 rfl) ?_
      refine lv_imul hx hb dL_acts_1006 ?_
      refine tp_i (show ((10 : Int32) * (nI i9)) = nI (10 * i9) from pk_mul 10 i9) ?_
      refine lv_iconst (v := 2) hx hb dL_acts_1007 (by decide) ?_
      refine lv_iadd hx hb dL_acts_1008 ?_
      refine tp_i (show ((nI (10 * i9)) + (2 : Int32)) = nI (10 * i9 + 2) from nI_add (10 * i9) 2) ?_
      refine g_ialdK (D := (dC, dI)) (tys := tYS cI cB cO cL) (k := 10 * i9 + 2) hx hb hK hW 1 0 rfl rfl (nI_clamp (by omega)) (nI_pos (by omega)) (by omega) dL_acts_1009 ?_
      refine tp_i (show (pa (10 * i9 + 2)) = c9 from by rw [e_pa, upd_eq]) ?_
      obtain ⟨b1, u1, hf, hk, hU1, hD1⟩ := clock_ok (x := c9) hD hU s9 kk hi9 ⟨by omega, by omega⟩
      rw [← e_pa] at hD1
      have f18 := And.intro hf hk
      refine w_clocks (R := rL_acts) (cells := 0) (slots := 0) (wo := arW qg qm qw cI g pa w) hfl hx hb hml hown hts hK hF hC hN hG hA rfl hN0 hS hI hW f18.1 f18.2 (Or.inl rfl) ⟨Nat.le_of_ble_eq_true rfl, Nat.le_of_ble_eq_true rfl⟩ ((m9 (10 * i9 + 2))) (rfl) (Nat.le_of_ble_eq_true rfl) hl.1 dL_acts_1010 ⟨(by omega : 0 + 4 ≤ 5), (by omega : 0 + 24 ≤ 84)⟩ (fun H locs hI hW hS => ?_)
      refine lv_iload hx hb dL_acts_1013 (lv_at hl 0 rfl) ?_
      refine lv_icmp_ne (tgt := 1022) hx hb dL_acts_1015 (by decide) (fun h => absurd (rfl) h) (fun _ => ?_)
      refine lv_iconst (v := 1) hx hb dL_acts_1018 (by decide) ?_
      refine lv_goto (tgt := 1023) hx hb dL_acts_1019 (by decide) ?_
      exact hend 1023 _ _ _ _ _ (b1, (pX8_outdate s9), u1, tr, te) g pa w ⟨Cn, Rn, Mn, Wn, Nn, hD1, SVI_old _ _ _, hU1⟩ hI hW hS (by omega) (by omega) dL_acts_1023
  have K1024 : ∀ ls : Array Slot, lv_has ls 20 [(5, .int (nI vn)), (0, .ref (qk 0)), (1, .ref (qg 0)), (2, .ref (qm 0)), (3, .ref (qw 0)), (4, .int z)] → W p l e rL_acts s m ([.ref (qk 0), .ref (qg 0), .ref (qm 0), .ref (qw 0), .int z] : List Value).toArray below meth c s.heap [] (0) (0) QQ (F0 m 1024 ls []) := by
    intro ls hl
    refine lv_aload_n hx hb dL_acts_1024 rfl (lv_at hl 1 rfl) ?_
    refine lv_aload_n hx hb dL_acts_1025 rfl (lv_at hl 2 rfl) ?_
    refine lv_aload_n hx hb dL_acts_1026 rfl (lv_at hl 3 rfl) ?_
    refine lv_aload_n hx hb dL_acts_1027 rfl (lv_at hl 4 rfl) ?_
    refine lv_iload hx hb dL_acts_1028 (lv_at hl 0 rfl) ?_
    refine lv_iload hx hb dL_acts_1030 (lv_at hl 5 rfl) ?_
    refine lv_bipush (v := 20) hx hb dL_acts_1032 (by decide) ?_
    refine gro_i (va_runS (As := [.int z, .int 20]) (rest := [.int (nI vn), .ref (qw 0), .ref (qm 0), .ref (qg 0), .ref (qk 0)]) ⟨hx, hb, hml, hown, hts⟩ (mL_low l dC dI cI cB cO cL z 20 (show ¬ (20 : Int32) = 0 by decide)) (va_cwS 2 hts (gT_in gQ_L_low_40) rfl rfl rfl (by decide +kernel) ⟨Nat.le_of_ble_eq_true rfl, Nat.le_of_ble_eq_true rfl⟩) ⟨gP_blind, gP_ok va_P_nil hK⟩ rfl rfl hl.1 rfl (lv_room (Nat.le_of_ble_eq_true rfl)) dL_acts_1034 ⟨(by omega : 0 + 0 ≤ 5), (by omega : 0 + 0 ≤ 84)⟩) ?_
    refine tp_i (show (pL_low z 20) = nI j9 from ej9) ?_
    refine lv_bipush (v := 13) hx hb dL_acts_1037 (by decide) ?_
    have hRel : RelT (b, s9, u, tr, te) g m9 w := ⟨Cn, Rn, Mn, Wn, Nn, hD, hV, hU⟩
    by_cases h9 : j9 = 13
    · refine lv_icmp_ne (tgt := 1046) hx hb dL_acts_1039 (by decide) (fun h => absurd (show nI (j9) = (13 : Int32) by rw [h9]; rfl) h) (fun _ => ?_)
      refine lv_iconst (v := 1) hx hb dL_acts_1042 (by decide) ?_
      refine lv_goto (tgt := 1047) hx hb dL_acts_1043 (by decide) ?_
      refine u_call (va_runS (As := [.ref (qk 0), .ref (qg 0), .ref (qm 0), .ref (qw 0), .int (nI vn), .int 1]) (rest := []) ⟨hx, hb, hml, hown, hts⟩ (mL_sounds l hfl dC dI cI cB cO cL N0 sT eA qb qs qu qr qe qk qx qd qg qm qw b s9 u tr te g m9 w kk 1 vn _ (Nat.le_trans hN0 hS.1) (gC_le hG hN) hRel hvn (Or.inr rfl)) (va_cwS 6 hts (gT_in gQ_L_sounds_84) rfl rfl rfl (by decide +kernel) ⟨Nat.le_of_ble_eq_true rfl, Nat.le_of_ble_eq_true rfl⟩) ⟨tP_blind, tP_ok (A := A) ⟨hI, hW⟩ hK hF hC hS hN⟩ rfl rfl hl.1 rfl (lv_room (Nat.le_of_ble_eq_true rfl)) dL_acts_1047 ⟨(by omega : 0 + 5 ≤ 5), (by omega : 0 + 84 ≤ 84)⟩) hG hA hS (fun v9 g9 m8 w9 H locs hRel hI hW hS => ?_)
      exact hend 1050 _ _ _ _ _ v9 g9 m8 w9 hRel hI hW hS (by omega) (by omega) dL_acts_1050
    · refine lv_icmp_ne (tgt := 1046) hx hb dL_acts_1039 (by decide) (fun _ => ?_) (fun h => absurd ((nI_eq (a := j9) (b := 13) (by omega) (by decide)).mp h) h9)
      refine lv_iconst (v := 0) hx hb dL_acts_1046 (by decide) ?_
      refine u_call (va_runS (As := [.ref (qk 0), .ref (qg 0), .ref (qm 0), .ref (qw 0), .int (nI vn), .int 0]) (rest := []) ⟨hx, hb, hml, hown, hts⟩ (mL_sounds l hfl dC dI cI cB cO cL N0 sT eA qb qs qu qr qe qk qx qd qg qm qw b s9 u tr te g m9 w kk 0 vn _ (Nat.le_trans hN0 hS.1) (gC_le hG hN) hRel hvn (Or.inl rfl)) (va_cwS 6 hts (gT_in gQ_L_sounds_84) rfl rfl rfl (by decide +kernel) ⟨Nat.le_of_ble_eq_true rfl, Nat.le_of_ble_eq_true rfl⟩) ⟨tP_blind, tP_ok (A := A) ⟨hI, hW⟩ hK hF hC hS hN⟩ rfl rfl hl.1 rfl (lv_room (Nat.le_of_ble_eq_true rfl)) dL_acts_1047 ⟨(by omega : 0 + 5 ≤ 5), (by omega : 0 + 84 ≤ 84)⟩) hG hA hS (fun v9 g9 m8 w9 H locs hRel hI hW hS => ?_)
      exact hend 1050 _ _ _ _ _ v9 g9 m8 w9 hRel hI hW hS (by omega) (by omega) dL_acts_1050
  have hj14 : j9 = 0 ∨ j9 = 1 ∨ j9 = 2 ∨ j9 = 3 ∨ j9 = 4 ∨ j9 = 5 ∨ j9 = 6 ∨ j9 = 7 ∨ j9 = 8 ∨ j9 = 9 ∨ j9 = 10 ∨ j9 = 11 ∨ j9 = 12 ∨ 13 ≤ j9 := by omega
  rcases hj14 with e9 | e9 | e9 | e9 | e9 | e9 | e9 | e9 | e9 | e9 | e9 | e9 | e9 | e9
  · rw [e9]
    refine lv_tableIn (tgt := 84) (off := 66) hx hb dL_acts_18 (by decide) (by decide) rfl (by decide) ?_
    exact K84 _ hl
  · rw [e9]
    refine lv_tableIn (tgt := 178) (off := 160) hx hb dL_acts_18 (by decide) (by decide) rfl (by decide) ?_
    exact K178 _ hl
  · rw [e9]
    refine lv_tableIn (tgt := 178) (off := 160) hx hb dL_acts_18 (by decide) (by decide) rfl (by decide) ?_
    exact K178 _ hl
  · rw [e9]
    refine lv_tableIn (tgt := 178) (off := 160) hx hb dL_acts_18 (by decide) (by decide) rfl (by decide) ?_
    exact K178 _ hl
  · rw [e9]
    refine lv_tableIn (tgt := 324) (off := 306) hx hb dL_acts_18 (by decide) (by decide) rfl (by decide) ?_
    exact K324 _ hl
  · rw [e9]
    refine lv_tableIn (tgt := 473) (off := 455) hx hb dL_acts_18 (by decide) (by decide) rfl (by decide) ?_
    exact K473 _ hl
  · rw [e9]
    refine lv_tableIn (tgt := 622) (off := 604) hx hb dL_acts_18 (by decide) (by decide) rfl (by decide) ?_
    exact K622 _ hl
  · rw [e9]
    refine lv_tableIn (tgt := 787) (off := 769) hx hb dL_acts_18 (by decide) (by decide) rfl (by decide) ?_
    exact K787 _ hl
  · rw [e9]
    refine lv_tableIn (tgt := 787) (off := 769) hx hb dL_acts_18 (by decide) (by decide) rfl (by decide) ?_
    exact K787 _ hl
  · rw [e9]
    refine lv_tableIn (tgt := 787) (off := 769) hx hb dL_acts_18 (by decide) (by decide) rfl (by decide) ?_
    exact K787 _ hl
  · rw [e9]
    refine lv_tableIn (tgt := 898) (off := 880) hx hb dL_acts_18 (by decide) (by decide) rfl (by decide) ?_
    exact K898 _ hl
  · rw [e9]
    refine lv_tableIn (tgt := 933) (off := 915) hx hb dL_acts_18 (by decide) (by decide) rfl (by decide) ?_
    exact K933 _ hl
  · rw [e9]
    refine lv_tableIn (tgt := 933) (off := 915) hx hb dL_acts_18 (by decide) (by decide) rfl (by decide) ?_
    exact K933 _ hl
  · refine lv_tableOut (tgt := 1024) hx hb dL_acts_18 (Or.inr (by rw [nI_toInt (by omega)]; omega)) (by decide) ?_
    exact K1024 _ hl
end SACTS
