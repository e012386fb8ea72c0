/-! THE LAW: are they listed -/
section SLISTED
theorem low_k2001 : ¬ (2001 : Int32) = 0 := by decide
theorem low_eq (v : Int32) {n : Nat} (h0 : 0 < n) (h : n < 2 ^ 31) : pL_low v (nI n) = nI (v.toBitVec.toNat % 2 ^ 31 % n) := by
  unfold pL_low
  rw [pk_and v (m := 2147483647) 31 (by decide)]
  exact nx_rem (Nat.mod_lt _ (by decide)) h0 h
theorem low_lt (v : Int32) {n : Nat} (h0 : 0 < n) (h : n < 2 ^ 31) : ∃ i : Nat, i < n ∧ pL_low v (nI n) = nI i := ⟨_, Nat.mod_lt _ h0, low_eq v h0 h⟩
theorem nI_off {j a : Nat} (hj : j < 2 ^ 30) (ha : a < 2 ^ 30) : (nI j - nI a).toInt = (j : Int) - a := pk_sub_toInt hj ha
theorem low_x (v : Int32) : ∃ x : Int32, pL_low v 2001 - 500 = x ∧ rg x (-1000) 3000 := by
  obtain ⟨i, hi, e⟩ := low_lt v (n := 2001) (by decide) (by decide)
  refine ⟨_, rfl, ?_⟩
  have e : pL_low v 2001 = nI i := e
  have h1 : (pL_low v 2001 - 500).toInt = (i : Int) - 500 := by
    rw [e]
    exact nI_off (a := 500) (by omega) (by decide)
  exact ⟨by rw [h1]; omega, by rw [h1]; omega⟩
abbrev rL_areListed : Room := { frames := 10, cells := 205, slots := 1284, locals := 205 }
set_option maxHeartbeats 8000000 in
set_option maxRecDepth 100000 in
theorem mL_areListed (l : Launch) (hfl : l.stackTraces = false) (dC : Nat → ClassId) (dI : Nat → Nat → Nat) (cI cB cO cL : ClassId) (N0 : Nat) (sT eA qb qs qu qr qe qk qx qd qg qm qw : Nat → Nat) (b : BS) (s9 : SS) (u : US) (tr te : TS) (g m9 w : Nat → Int32) (kk : Int32) (z : Int32) (sz : Nat) (hsz : N0 ≤ sz) (hG0 : gC (fun q => N0 ≤ q) (cpT qb qs qu qr qe qk [qg 0, qm 0, qw 0])) (hR0 : RelT (b, s9, u, tr, te) g m9 w) : Met l yL_areListed wsT_areListed rL_areListed (tP N0 sz sT eA (dC, dI) (tYS cI cB cO cL) (LT (dC, dI) cI cB qb qs qu qr qe qk qx qd qg qm qw kk ((b, s9, u, tr, te), g, m9, w)) [.ref (qk 0), .ref (qg 0), .ref (qm 0), .ref (qw 0), .int z]) (upQ (dC, dI) cI cB qb qs qu qr qe qk qx qd qg qm qw kk (uA (cpT qb qs qu qr qe qk [qg 0, qm 0, qw 0]) sz)) 205 1284 (uA (cpT qb qs qu qr qe qk [qg 0, qm 0, qw 0]) sz) := by
  refine tMet (cc := cL_areListed) (maxL := 12) (ws' := gT) (v0 := ((b, s9, u, tr, te), g, m9, w)) (av := [.ref (qk 0), .ref (qg 0), .ref (qm 0), .ref (qw 0), .int z]) [(0, .ref (qk 0)), (1, .ref (qg 0)), (2, .ref (qm 0)), (3, .ref (qw 0)), (4, .int z)] hsz hG0 (by decide) rfl rfl rfl ?_
  intro p e s m below meth c A QQ hx hb hml hown hts hK hF hC hN0 hA hN hG hI hW hend ls hl
  have hown : s.vm.findClass RL = some m.cls := hown
  obtain ⟨Cn, Rn, Mn, Wn, Nn, hD, hV, hU⟩ := hR0
  obtain ⟨hlC, hlR, hlM, hlW, hlN⟩ := hD.1.le
  have hI : OI (dC, dI) cI cB qb qs qu qr qe qk qx qd kk (b, s9, u, tr, te) s.heap := hI
  have hW : va_P (dC, dI) vwCl (arW qg qm qw cI g m9 w) s.heap := hW
  have hS : va_S A s.heap s.heap [] := va_S.rf
  refine lv_aload_n hx hb dL_areListed_0 rfl (lv_at hl 1 rfl) ?_
  refine lv_iconst (v := 2) hx hb dL_areListed_1 (by decide) ?_
  refine g_ialdK (D := (dC, dI)) (tys := tYS cI cB cO cL) (k := 2) hx hb hK hW 0 0 rfl rfl (by decide) (by decide) (by decide) dL_areListed_2 ?_
  refine tp_i (show (g 2) = nI Mn from hD.1.eM) ?_
  rcases Nat.eq_zero_or_pos Mn with h0 | h0
  · subst h0
    refine lv_if_ne (tgt := 24) hx hb dL_areListed_3 (by decide) (fun h => absurd rfl h) (fun _ => ?_)
    refine lv_aload_n hx hb dL_areListed_6 rfl (lv_at hl 0 rfl) ?_
    refine lv_iconst (v := 0) hx hb dL_areListed_7 (by decide) ?_
    refine lv_iconst (v := 0) hx hb dL_areListed_8 (by decide) ?_
    refine lv_iconst (v := 0) hx hb dL_areListed_9 (by decide) ?_
    have f1 := arr_none hD kk tr
    refine w_manyAt (R := rL_areListed) (cells := 0) (slots := 0) (wo := arW qg qm qw cI g m9 w) hfl hx hb hml hown hts hK hF hC hN hG hA rfl hN0 hS hI hW f1.1 f1.2 (Or.inr (Or.inl rfl)) ⟨Nat.le_of_ble_eq_true rfl, Nat.le_of_ble_eq_true rfl⟩ ((-100000001)) (rfl) (Nat.le_of_ble_eq_true rfl) hl.1 dL_areListed_10 ⟨(by omega : 0 + 4 ≤ 205), (by omega : 0 + 24 ≤ 1284)⟩ (fun H locs hI hW hS => ?_)
    refine lv_ldc (v := (-100000001)) hx hb hown (hts (.constant RL 63 (-100000001)) (gTt tw521)) dL_areListed_13 ?_
    refine lv_icmp_ne (tgt := 22) hx hb dL_areListed_15 (by decide) (fun h => absurd (rfl) h) (fun _ => ?_)
    refine lv_iconst (v := 1) hx hb dL_areListed_18 (by decide) ?_
    refine lv_goto (tgt := 23) hx hb dL_areListed_19 (by decide) ?_
    exact hend 23 _ _ _ _ _ (b, s9, u, tr, te) g m9 w ⟨Cn, Rn, 0, Wn, Nn, hD, hV, hU⟩ hI hW hS (by omega) (by omega) dL_areListed_23
  · refine lv_if_ne (tgt := 24) hx hb dL_areListed_3 (by decide) (fun _ => ?_) (fun h => absurd h (nI_ne0 h0 (by omega)))
    refine lv_bipush (v := 60) hx hb dL_areListed_24 (by decide) ?_
    refine w_new60 hx hb (hts (.arrayClass .int) (gTt tw73)) hK hG hA hI hW hS (by omega : 0 + 1 ≤ 205) (by omega : 0 + 60 ≤ 1284) dL_areListed_26 (fun qa H hI hW hG hS => ?_)
    refine lv_astore (lv' := [(5, .ref (qa 0)), (0, .ref (qk 0)), (1, .ref (qg 0)), (2, .ref (qm 0)), (3, .ref (qw 0)), (4, .int z)]) hx hb dL_areListed_28 hl (by decide) rfl (fun ls hl => ?_)
    refine lv_iload hx hb dL_areListed_30 (lv_at hl 5 rfl) ?_
    refine lv_sipush (v := 2001) hx hb dL_areListed_32 (by decide) ?_
    refine gro_i (va_runS (As := [.int z, .int 2001]) (rest := []) ⟨hx, hb, hml, hown, hts⟩ (mL_low l dC dI cI cB cO cL z 2001 low_k2001) (va_cwS 2 hts (gT_in gQ_L_low_40) rfl rfl rfl (by decide +kernel) ⟨Nat.le_of_ble_eq_true rfl, Nat.le_of_ble_eq_true rfl⟩) ⟨gP_blind, gP_ok va_P_nil hK⟩ rfl rfl hl.1 rfl (lv_room (Nat.le_of_ble_eq_true rfl)) dL_areListed_35 ⟨(by omega : 1 + 0 ≤ 205), (by omega : 60 + 0 ≤ 1284)⟩) ?_
    refine lv_sipush (v := 500) hx hb dL_areListed_38 (by decide) ?_
    refine lv_isub hx hb dL_areListed_41 ?_
    obtain ⟨x9, ex9, hx9⟩ := low_x z
    refine tp_i (show ((pL_low z 2001) - (500 : Int32)) = x9 from ex9) ?_
    refine lv_istore (lv' := [(6, .int x9), (5, .ref (qa 0)), (0, .ref (qk 0)), (1, .ref (qg 0)), (2, .ref (qm 0)), (3, .ref (qw 0)), (4, .int z)]) hx hb dL_areListed_42 hl (by decide) rfl (fun ls hl => ?_)
    refine lv_iload hx hb dL_areListed_44 (lv_at hl 6 rfl) ?_
    refine lv_bipush (v := 11) hx hb dL_areListed_46 (by decide) ?_
    refine lv_ishr hx hb dL_areListed_48 ?_
    refine lv_topi (fun z2 e_z2 => ?_)
    refine lv_sipush (v := 2001) hx hb dL_areListed_49 (by decide) ?_
    refine gro_i (va_runS (As := [.int z2, .int 2001]) (rest := []) ⟨hx, hb, hml, hown, hts⟩ (mL_low l dC dI cI cB cO cL z2 2001 low_k2001) (va_cwS 2 hts (gT_in gQ_L_low_40) rfl rfl rfl (by decide +kernel) ⟨Nat.le_of_ble_eq_true rfl, Nat.le_of_ble_eq_true rfl⟩) ⟨gP_blind, gP_ok va_P_nil hK⟩ rfl rfl hl.1 rfl (lv_room (Nat.le_of_ble_eq_true rfl)) dL_areListed_52 ⟨(by omega : 1 + 0 ≤ 205), (by omega : 60 + 0 ≤ 1284)⟩) ?_
    refine lv_sipush (v := 500) hx hb dL_areListed_55 (by decide) ?_
    refine lv_isub hx hb dL_areListed_58 ?_
    obtain ⟨y9, ey9, hy9⟩ := low_x z2
    refine tp_i (show ((pL_low z2 2001) - (500 : Int32)) = y9 from ey9) ?_
    refine lv_istore (lv' := [(7, .int y9), (6, .int x9), (5, .ref (qa 0)), (0, .ref (qk 0)), (1, .ref (qg 0)), (2, .ref (qm 0)), (3, .ref (qw 0)), (4, .int z)]) hx hb dL_areListed_59 hl (by decide) rfl (fun ls hl => ?_)
    refine lv_iload hx hb dL_areListed_61 (lv_at hl 7 rfl) ?_
    refine lv_iconst (v := 3) hx hb dL_areListed_63 (by decide) ?_
    refine lv_ishr hx hb dL_areListed_64 ?_
    refine lv_topi (fun z3 e_z3 => ?_)
    refine lv_aload_n hx hb dL_areListed_65 rfl (lv_at hl 4 rfl) ?_
    refine lv_iconst (v := 2) hx hb dL_areListed_66 (by decide) ?_
    refine g_ialdK (D := (dC, dI)) (tys := tYS cI cB cO cL) (k := 2) hx hb hK hW 0 0 rfl rfl (by decide) (by decide) (by decide) dL_areListed_67 ?_
    refine tp_i (show (g 2) = nI Mn from hD.1.eM) ?_
    refine gro_i (va_runS (As := [.int z3, .int (nI Mn)]) (rest := []) ⟨hx, hb, hml, hown, hts⟩ (mL_low l dC dI cI cB cO cL z3 (nI Mn) (nI_ne0 h0 (by omega))) (va_cwS 2 hts (gT_in gQ_L_low_40) rfl rfl rfl (by decide +kernel) ⟨Nat.le_of_ble_eq_true rfl, Nat.le_of_ble_eq_true rfl⟩) ⟨gP_blind, gP_ok va_P_nil hK⟩ rfl rfl hl.1 rfl (lv_room (Nat.le_of_ble_eq_true rfl)) dL_areListed_68 ⟨(by omega : 1 + 0 ≤ 205), (by omega : 60 + 0 ≤ 1284)⟩) ?_
    obtain ⟨i9, hi9, ei9⟩ : ∃ i : Nat, i < Mn ∧ pL_low z3 (nI Mn) = nI i := low_lt z3 h0 (by omega)
    refine tp_i (show (pL_low z3 (nI Mn)) = nI i9 from ei9) ?_
    refine lv_istore (lv' := [(8, .int (nI i9)), (7, .int y9), (6, .int x9), (5, .ref (qa 0)), (0, .ref (qk 0)), (1, .ref (qg 0)), (2, .ref (qm 0)), (3, .ref (qw 0)), (4, .int z)]) hx hb dL_areListed_71 hl (by decide) rfl (fun ls hl => ?_)
    obtain ⟨Lx, a2, hL, hpl, hkl, hmany, hnone, hat⟩ := arr_eq hD kk hi9 hx9 hy9 (fun _ : Nat => (0 : Int32))
    refine lv_aload_n hx hb dL_areListed_73 rfl (lv_at hl 5 rfl) ?_
    refine lv_aload_n hx hb dL_areListed_74 rfl (lv_at hl 6 rfl) ?_
    refine lv_aload_n hx hb dL_areListed_75 rfl (lv_at hl 7 rfl) ?_
    refine lv_aload hx hb dL_areListed_76 (lv_at hl 3 rfl) ?_
    refine lv_iload hx hb dL_areListed_78 (lv_at hl 2 rfl) ?_
    refine lv_iload hx hb dL_areListed_80 (lv_at hl 1 rfl) ?_
    refine lv_iload hx hb dL_areListed_82 (lv_at hl 0 rfl) ?_
    refine o_call (wr := []) (va_runS (As := [.ref (qg 0), .ref (qm 0), .ref (qw 0), .ref (qa 0), .int x9, .int y9, .int (nI i9)]) (rest := []) ⟨hx, hb, hml, hown, hts⟩ (mL_lists l dC dI cI cB cO cL qg qm qw qa g m9 w (fun _ : Nat => (0 : Int32)) x9 y9 (nI i9) (gD_any (hG.1 6)) hkl) (va_cwS 7 hts (gT_in gQ_L_lists_31) rfl rfl rfl (by decide +kernel) ⟨Nat.le_of_ble_eq_true rfl, Nat.le_of_ble_eq_true rfl⟩) ⟨gP_blind, gP_ok hW hK⟩ rfl rfl hl.1 rfl (lv_room (Nat.le_of_ble_eq_true rfl)) dL_areListed_84 ⟨(by omega : 1 + 0 ≤ 205), (by omega : 60 + 0 ≤ 1284)⟩) hI va_P_nilO (gC_all hG) (fun q h => Or.inl (mem_wA h)) (fun q h => Or.inl (mem_wA h)) (fun q h => (hG.1 6).2 q h) hA hS (fun r9 u9 H locs hp9 hW _ hI hS => ?_)
    obtain ⟨rfl, eu9⟩ := Prod.mk.inj (hp9.trans hpl)
    have eu9 := eu9.symm
    subst eu9
    have hW : va_P (dC, dI) vwCl (arW qg qm qw cI g m9 w ++ ia60 qa cI a2) H := hW
    refine lv_istore (lv' := [(9, .int (nI Lx)), (8, .int (nI i9)), (7, .int y9), (6, .int x9), (5, .ref (qa 0)), (0, .ref (qk 0)), (1, .ref (qg 0)), (2, .ref (qm 0)), (3, .ref (qw 0)), (4, .int z)]) hx hb dL_areListed_87 hl (by decide) rfl (fun ls hl => ?_)
    have T148 : ∀ (n : Nat) (k : Nat) (tr0 : TS) (H : Heap) (locs : List Loc) (cells slots : Nat), k + n = Lx → OI (dC, dI) cI cB qb qs qu qr qe qk qx qd kk (b, s9, u, tr0, te) H → va_P (dC, dI) vwCl (arW qg qm qw cI g m9 w ++ ia60 qa cI a2) H → va_S A s.heap H locs → ∀ ls : Array Slot, lv_has ls 12 [(11, .int (nI k)), (10, .int 1), (9, .int (nI Lx)), (8, .int (nI i9)), (7, .int y9), (6, .int x9), (5, .ref (qa 0)), (0, .ref (qk 0)), (1, .ref (qg 0)), (2, .ref (qm 0)), (3, .ref (qw 0))] → cells + (16 * n) ≤ 205 → slots + (96 * n) ≤ 1284 → W p l e rL_areListed s m ([.ref (qk 0), .ref (qg 0), .ref (qm 0), .ref (qw 0), .int z] : List Value).toArray below meth c H locs (cells) (slots) QQ (F0 m 148 ls []) := by
      intro n
      induction n with
      | zero =>
        intro k tr0 H locs cells slots hk hI hW hS ls hl hcc hss
        have hk : k = Lx := by omega
        refine lv_iload hx hb dL_areListed_148 (lv_at hl 0 rfl) ?_
        refine lv_iload hx hb dL_areListed_150 (lv_at hl 2 rfl) ?_
        refine lv_icmp_ge (tgt := 280) hx hb dL_areListed_152 (by decide) (fun _ => ?_) (fun h => absurd (nI_le (a := Lx) (b := k) (by omega) (by omega)) h)
        refine lv_iload hx hb dL_areListed_280 (lv_at hl 1 rfl) ?_
        have hW : va_P (dC, dI) vwCl (arW qg qm qw cI g m9 w) H := va_P_pre hW
        exact hend 282 _ _ _ _ _ (b, s9, u, tr0, te) g m9 w ⟨Cn, Rn, Mn, Wn, Nn, hD, hV, hU⟩ hI hW hS (by omega) (by omega) dL_areListed_282
      | succ n ih =>
        intro k tr0 H locs cells slots hk hI hW hS ls hl hcc hss
        have hkL : k < Lx := by omega
        refine lv_iload hx hb dL_areListed_148 (lv_at hl 0 rfl) ?_
        refine lv_iload hx hb dL_areListed_150 (lv_at hl 2 rfl) ?_
        refine lv_icmp_ge (tgt := 280) hx hb dL_areListed_152 (by decide) (fun h => absurd h (nI_ge (a := k) (b := Lx) (by omega) (by omega))) (fun _ => ?_)
        refine lv_iload hx hb dL_areListed_155 (lv_at hl 1 rfl) ?_
        refine lv_if_eq (tgt := 280) hx hb dL_areListed_157 (by decide) (fun h => absurd h (by decide)) (fun _ => ?_)
        refine lv_aload_n hx hb dL_areListed_160 rfl (lv_at hl 7 rfl) ?_
        refine lv_iload hx hb dL_areListed_161 (lv_at hl 5 rfl) ?_
        refine lv_iload hx hb dL_areListed_163 (lv_at hl 4 rfl) ?_
        refine lv_iload hx hb dL_areListed_165 (lv_at hl 3 rfl) ?_
        refine lv_iload hx hb dL_areListed_167 (lv_at hl 0 rfl) ?_
        refine lv_iconst (v := 0) hx hb dL_areListed_169 (by decide) ?_
        obtain ⟨t0, h10, h20⟩ := hat k hkL tr0 0 (by omega)
        have f2 := And.intro h10 h20
        refine w_atOf (R := rL_areListed) (cells := cells) (slots := slots) (wo := arW qg qm qw cI g m9 w ++ ia60 qa cI a2) hfl hx hb hml hown hts hK hF hC hN hG hA rfl hN0 hS hI hW f2.1 f2.2 (Or.inl rfl) ⟨Nat.le_of_ble_eq_true rfl, Nat.le_of_ble_eq_true rfl⟩ ((a2 (5 * k + 0))) (rfl) (Nat.le_of_ble_eq_true rfl) hl.1 dL_areListed_170 ⟨(by omega : cells + 4 ≤ 205), (by omega : slots + 24 ≤ 1284)⟩ (fun H locs hI hW hS => ?_)
        refine lv_aload hx hb dL_areListed_173 (lv_at hl 6 rfl) ?_
        refine lv_iconst (v := 5) hx hb dL_areListed_175 (by decide) ?_
        refine lv_iload hx hb dL_areListed_176 (lv_at hl 0 rfl) ?_
        refine lv_imul hx hb dL_areListed_178 ?_
        refine tp_i (show ((5 : Int32) * (nI k)) = nI (5 * k) from pk_mul 5 k) ?_
        refine g_ialdK (D := (dC, dI)) (tys := tYS cI cB cO cL) (k := 5 * k) hx hb hK hW 3 0 rfl rfl (nI_clamp (by omega)) (nI_pos (by omega)) (by omega) dL_areListed_179 ?_
        refine lv_icmp_ne (tgt := 271) hx hb dL_areListed_180 (by decide) (fun h => absurd (rfl) h) (fun _ => ?_)
        refine lv_aload_n hx hb dL_areListed_183 rfl (lv_at hl 7 rfl) ?_
        refine lv_iload hx hb dL_areListed_184 (lv_at hl 5 rfl) ?_
        refine lv_iload hx hb dL_areListed_186 (lv_at hl 4 rfl) ?_
        refine lv_iload hx hb dL_areListed_188 (lv_at hl 3 rfl) ?_
        refine lv_iload hx hb dL_areListed_190 (lv_at hl 0 rfl) ?_
        refine lv_iconst (v := 1) hx hb dL_areListed_192 (by decide) ?_
        obtain ⟨t1, h11, h21⟩ := hat k hkL t0 1 (by omega)
        have f3 := And.intro h11 h21
        refine w_atOf (R := rL_areListed) (cells := cells + 4) (slots := slots + 24) (wo := arW qg qm qw cI g m9 w ++ ia60 qa cI a2) hfl hx hb hml hown hts hK hF hC hN hG hA rfl hN0 hS hI hW f3.1 f3.2 (Or.inl rfl) ⟨Nat.le_of_ble_eq_true rfl, Nat.le_of_ble_eq_true rfl⟩ ((a2 (5 * k + 1))) (rfl) (Nat.le_of_ble_eq_true rfl) hl.1 dL_areListed_193 ⟨(by omega : cells + 4 + 4 ≤ 205), (by omega : slots + 24 + 24 ≤ 1284)⟩ (fun H locs hI hW hS => ?_)
        refine lv_aload hx hb dL_areListed_196 (lv_at hl 6 rfl) ?_
        refine lv_iconst (v := 5) hx hb dL_areListed_198 (by decide) ?_
        refine lv_iload hx hb dL_areListed_199 (lv_at hl 0 rfl) ?_
        refine lv_imul hx hb dL_areListed_201 ?_
        refine tp_i (show ((5 : Int32) * (nI k)) = nI (5 * k) from pk_mul 5 k) ?_
        refine lv_iconst (v := 1) hx hb dL_areListed_202 (by decide) ?_
        refine lv_iadd hx hb dL_areListed_203 ?_
        refine tp_i (show ((nI (5 * k)) + (1 : Int32)) = nI (5 * k + 1) from nI_add (5 * k) 1) ?_
        refine g_ialdK (D := (dC, dI)) (tys := tYS cI cB cO cL) (k := 5 * k + 1) hx hb hK hW 3 0 rfl rfl (nI_clamp (by omega)) (nI_pos (by omega)) (by omega) dL_areListed_204 ?_
        refine lv_icmp_ne (tgt := 271) hx hb dL_areListed_205 (by decide) (fun h => absurd (rfl) h) (fun _ => ?_)
        refine lv_aload_n hx hb dL_areListed_208 rfl (lv_at hl 7 rfl) ?_
        refine lv_iload hx hb dL_areListed_209 (lv_at hl 5 rfl) ?_
        refine lv_iload hx hb dL_areListed_211 (lv_at hl 4 rfl) ?_
        refine lv_iload hx hb dL_areListed_213 (lv_at hl 3 rfl) ?_
        refine lv_iload hx hb dL_areListed_215 (lv_at hl 0 rfl) ?_
        refine lv_iconst (v := 2) hx hb dL_areListed_217 (by decide) ?_
        obtain ⟨t2, h12, h22⟩ := hat k hkL t1 2 (by omega)
        have f4 := And.intro h12 h22
        refine w_atOf (R := rL_areListed) (cells := cells + 8) (slots := slots + 48) (wo := arW qg qm qw cI g m9 w ++ ia60 qa cI a2) hfl hx hb hml hown hts hK hF hC hN hG hA rfl hN0 hS hI hW f4.1 f4.2 (Or.inl rfl) ⟨Nat.le_of_ble_eq_true rfl, Nat.le_of_ble_eq_true rfl⟩ ((a2 (5 * k + 1) * (1000 : Int32) / g 7)) (rfl) (Nat.le_of_ble_eq_true rfl) hl.1 dL_areListed_218 ⟨(by omega : cells + 8 + 4 ≤ 205), (by omega : slots + 48 + 24 ≤ 1284)⟩ (fun H locs hI hW hS => ?_)
        refine lv_aload hx hb dL_areListed_221 (lv_at hl 6 rfl) ?_
        refine lv_iconst (v := 5) hx hb dL_areListed_223 (by decide) ?_
        refine lv_iload hx hb dL_areListed_224 (lv_at hl 0 rfl) ?_
        refine lv_imul hx hb dL_areListed_226 ?_
        refine tp_i (show ((5 : Int32) * (nI k)) = nI (5 * k) from pk_mul 5 k) ?_
        refine lv_iconst (v := 1) hx hb dL_areListed_227 (by decide) ?_
        refine lv_iadd hx hb dL_areListed_228 ?_
        refine tp_i (show ((nI (5 * k)) + (1 : Int32)) = nI (5 * k + 1) from nI_add (5 * k) 1) ?_
        refine g_ialdK (D := (dC, dI)) (tys := tYS cI cB cO cL) (k := 5 * k + 1) hx hb hK hW 3 0 rfl rfl (nI_clamp (by omega)) (nI_pos (by omega)) (by omega) dL_areListed_229 ?_
        refine lv_sipush (v := 1000) hx hb dL_areListed_230 (by decide) ?_
        refine lv_imul hx hb dL_areListed_233 ?_
        refine lv_aload_n hx hb dL_areListed_234 rfl (lv_at hl 8 rfl) ?_
        refine lv_bipush (v := 7) hx hb dL_areListed_235 (by decide) ?_
        refine g_ialdK (D := (dC, dI)) (tys := tYS cI cB cO cL) (k := 7) hx hb hK hW 0 0 rfl rfl (by decide) (by decide) (by decide) dL_areListed_237 ?_
        refine lv_idiv hx hb dL_areListed_238 hD.1.g7 ?_
        refine lv_icmp_ne (tgt := 271) hx hb dL_areListed_239 (by decide) (fun h => absurd (rfl) h) (fun _ => ?_)
        refine lv_aload_n hx hb dL_areListed_242 rfl (lv_at hl 7 rfl) ?_
        refine lv_iload hx hb dL_areListed_243 (lv_at hl 5 rfl) ?_
        refine lv_iload hx hb dL_areListed_245 (lv_at hl 4 rfl) ?_
        refine lv_iload hx hb dL_areListed_247 (lv_at hl 3 rfl) ?_
        refine lv_iload hx hb dL_areListed_249 (lv_at hl 0 rfl) ?_
        refine lv_iconst (v := 3) hx hb dL_areListed_251 (by decide) ?_
        obtain ⟨t3, h13, h23⟩ := hat k hkL t2 3 (by omega)
        have f5 := And.intro h13 h23
        refine w_atOf (R := rL_areListed) (cells := cells + 12) (slots := slots + 72) (wo := arW qg qm qw cI g m9 w ++ ia60 qa cI a2) hfl hx hb hml hown hts hK hF hC hN hG hA rfl hN0 hS hI hW f5.1 f5.2 (Or.inl rfl) ⟨Nat.le_of_ble_eq_true rfl, Nat.le_of_ble_eq_true rfl⟩ ((a2 (5 * k + 2))) (rfl) (Nat.le_of_ble_eq_true rfl) hl.1 dL_areListed_252 ⟨(by omega : cells + 12 + 4 ≤ 205), (by omega : slots + 72 + 24 ≤ 1284)⟩ (fun H locs hI hW hS => ?_)
        refine lv_aload hx hb dL_areListed_255 (lv_at hl 6 rfl) ?_
        refine lv_iconst (v := 5) hx hb dL_areListed_257 (by decide) ?_
        refine lv_iload hx hb dL_areListed_258 (lv_at hl 0 rfl) ?_
        refine lv_imul hx hb dL_areListed_260 ?_
        refine tp_i (show ((5 : Int32) * (nI k)) = nI (5 * k) from pk_mul 5 k) ?_
        refine lv_iconst (v := 2) hx hb dL_areListed_261 (by decide) ?_
        refine lv_iadd hx hb dL_areListed_262 ?_
        refine tp_i (show ((nI (5 * k)) + (2 : Int32)) = nI (5 * k + 2) from nI_add (5 * k) 2) ?_
        refine g_ialdK (D := (dC, dI)) (tys := tYS cI cB cO cL) (k := 5 * k + 2) hx hb hK hW 3 0 rfl rfl (nI_clamp (by omega)) (nI_pos (by omega)) (by omega) dL_areListed_263 ?_
        refine lv_icmp_ne (tgt := 271) hx hb dL_areListed_264 (by decide) (fun h => absurd (rfl) h) (fun _ => ?_)
        refine lv_iconst (v := 1) hx hb dL_areListed_267 (by decide) ?_
        refine lv_goto (tgt := 272) hx hb dL_areListed_268 (by decide) ?_
        refine lv_istore (lv' := [(10, .int 1), (11, .int (nI k)), (9, .int (nI Lx)), (8, .int (nI i9)), (7, .int y9), (6, .int x9), (5, .ref (qa 0)), (0, .ref (qk 0)), (1, .ref (qg 0)), (2, .ref (qm 0)), (3, .ref (qw 0))]) hx hb dL_areListed_272 hl (by decide) rfl (fun ls hl => ?_)
        refine lv_iinc (v := (nI (k + 1))) (lv' := [(11, .int (nI (k + 1))), (10, .int 1), (9, .int (nI Lx)), (8, .int (nI i9)), (7, .int y9), (6, .int x9), (5, .ref (qa 0)), (0, .ref (qk 0)), (1, .ref (qg 0)), (2, .ref (qm 0)), (3, .ref (qw 0))]) hx hb dL_areListed_274 hl (k := 1) rfl (nI_add (k) 1) (by decide) rfl (fun ls hl => ?_)
        refine lv_goto (tgt := 148) hx hb dL_areListed_277 (by decide) ?_
        exact ih (k + 1) t3 _ _ _ _ (by omega) hI hW hS _ (lv_sub hl [0, 1, 2, 3, 4, 5, 6, 7, 8, 9, 10] rfl) (by omega) (by omega)
    refine lv_aload_n hx hb dL_areListed_89 rfl (lv_at hl 5 rfl) ?_
    refine lv_iload hx hb dL_areListed_90 (lv_at hl 3 rfl) ?_
    refine lv_iload hx hb dL_areListed_92 (lv_at hl 2 rfl) ?_
    refine lv_iload hx hb dL_areListed_94 (lv_at hl 1 rfl) ?_
    obtain ⟨ta, h1a, h2a⟩ := hmany tr
    have f6 := And.intro h1a h2a
    refine w_manyAt (R := rL_areListed) (cells := 1) (slots := 60) (wo := arW qg qm qw cI g m9 w ++ ia60 qa cI a2) hfl hx hb hml hown hts hK hF hC hN hG hA rfl hN0 hS hI hW f6.1 f6.2 (Or.inl rfl) ⟨Nat.le_of_ble_eq_true rfl, Nat.le_of_ble_eq_true rfl⟩ (nI Lx) (rfl) (Nat.le_of_ble_eq_true rfl) hl.1 dL_areListed_96 ⟨(by omega : 1 + 4 ≤ 205), (by omega : 60 + 24 ≤ 1284)⟩ (fun H locs hI hW hS => ?_)
    refine lv_iload hx hb dL_areListed_99 (lv_at hl 0 rfl) ?_
    refine lv_icmp_ne (tgt := 142) hx hb dL_areListed_101 (by decide) (fun h => absurd (rfl) h) (fun _ => ?_)
    refine lv_aload_n hx hb dL_areListed_104 rfl (lv_at hl 5 rfl) ?_
    refine lv_iload hx hb dL_areListed_105 (lv_at hl 3 rfl) ?_
    refine lv_iload hx hb dL_areListed_107 (lv_at hl 2 rfl) ?_
    refine lv_iload hx hb dL_areListed_109 (lv_at hl 1 rfl) ?_
    refine lv_iload hx hb dL_areListed_111 (lv_at hl 0 rfl) ?_
    refine lv_iconst (v := 0) hx hb dL_areListed_113 (by decide) ?_
    obtain ⟨tb, h1b, h2b⟩ := hnone ta
    have f7 := And.intro h1b h2b
    refine w_atOf (R := rL_areListed) (cells := 5) (slots := 84) (wo := arW qg qm qw cI g m9 w ++ ia60 qa cI a2) hfl hx hb hml hown hts hK hF hC hN hG hA rfl hN0 hS hI hW f7.1 f7.2 (Or.inl rfl) ⟨Nat.le_of_ble_eq_true rfl, Nat.le_of_ble_eq_true rfl⟩ ((-1000000000)) (rfl) (Nat.le_of_ble_eq_true rfl) hl.1 dL_areListed_114 ⟨(by omega : 5 + 4 ≤ 205), (by omega : 84 + 24 ≤ 1284)⟩ (fun H locs hI hW hS => ?_)
    refine lv_ldc (v := (-1000000000)) hx hb hown (hts (.constant RL 23 (-1000000000)) (gTt tw462)) dL_areListed_117 ?_
    refine lv_icmp_ne (tgt := 142) hx hb dL_areListed_119 (by decide) (fun h => absurd (rfl) h) (fun _ => ?_)
    refine lv_aload_n hx hb dL_areListed_122 rfl (lv_at hl 5 rfl) ?_
    refine lv_sipush (v := 3001) hx hb dL_areListed_123 (by decide) ?_
    refine lv_iload hx hb dL_areListed_126 (lv_at hl 2 rfl) ?_
    refine lv_iload hx hb dL_areListed_128 (lv_at hl 1 rfl) ?_
    have f8 := arr_no hD kk tb hi9 y9
    refine w_manyAt (R := rL_areListed) (cells := 9) (slots := 108) (wo := arW qg qm qw cI g m9 w ++ ia60 qa cI a2) hfl hx hb hml hown hts hK hF hC hN hG hA rfl hN0 hS hI hW f8.1 f8.2 (Or.inr (Or.inr rfl)) ⟨Nat.le_of_ble_eq_true rfl, Nat.le_of_ble_eq_true rfl⟩ ((-100000002)) (rfl) (Nat.le_of_ble_eq_true rfl) hl.1 dL_areListed_130 ⟨(by omega : 9 + 4 ≤ 205), (by omega : 108 + 24 ≤ 1284)⟩ (fun H locs hI hW hS => ?_)
    refine lv_ldc (v := (-100000002)) hx hb hown (hts (.constant RL 48 (-100000002)) (gTt tw443)) dL_areListed_133 ?_
    refine lv_icmp_ne (tgt := 142) hx hb dL_areListed_135 (by decide) (fun h => absurd (rfl) h) (fun _ => ?_)
    refine lv_iconst (v := 1) hx hb dL_areListed_138 (by decide) ?_
    refine lv_goto (tgt := 143) hx hb dL_areListed_139 (by decide) ?_
    refine lv_istore (lv' := [(10, .int 1), (9, .int (nI Lx)), (8, .int (nI i9)), (7, .int y9), (6, .int x9), (5, .ref (qa 0)), (0, .ref (qk 0)), (1, .ref (qg 0)), (2, .ref (qm 0)), (3, .ref (qw 0)), (4, .int z)]) hx hb dL_areListed_143 hl (by decide) rfl (fun ls hl => ?_)
    refine lv_iconst (v := 0) hx hb dL_areListed_145 (by decide) ?_
    refine lv_istore (lv' := [(11, .int 0), (10, .int 1), (9, .int (nI Lx)), (8, .int (nI i9)), (7, .int y9), (6, .int x9), (5, .ref (qa 0)), (0, .ref (qk 0)), (1, .ref (qg 0)), (2, .ref (qm 0)), (3, .ref (qw 0)), (4, .int z)]) hx hb dL_areListed_146 hl (by decide) rfl (fun ls hl => ?_)
    exact T148 Lx 0 tb _ _ _ _ (by omega) hI hW hS _ (lv_sub hl [0, 1, 2, 3, 4, 5, 6, 7, 8, 9, 10] rfl) (by omega) (by omega)
end SLISTED
