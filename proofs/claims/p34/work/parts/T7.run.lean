/-! THE LAW: its run -/
section LRUN
set_option maxHeartbeats 8000000 in
set_option maxRecDepth 100000 in
theorem law_run (p : Program) (l : Launch) (e : Env) (s : State) (m : MethodId) (below : List Frame) (meth : Method) (c : Code) (ba Ln : Nat) (xs : Nat → Int32) (dC : Nat → ClassId) (dI : Nat → Nat → Nat) (cI cB cO cL : ClassId) (sT eA qb qs qu qr qe qk qx qd qg qm qw : Nat → Nat) (kk : Int32) (g m9 w : Nat → Int32) (hg0 : ∀ q, g q = 0) (hfl : l.stackTraces = false) (hx : p.tables.exec = Jvm.exec) (hb : c.code = cL_law) (hr : meth.sig.returnType = ret) (hml : c.maxLocals = 9) (hown : s.vm.findClass RL = some m.cls) (hts : ∀ w ∈ Cond.arrayClass .int :: gT, w.before #[Value.ref ba] s = true) (hlocks : meth.locks = false) (hK : va_K (dC, dI) vwCl (tYS cI cB cO cL) s) (hF : eF s.heap.size sT eA s s.heap) (hC : nC s) (hX : va_X ba Ln xs s s.heap) (hbl : ba < s.heap.size) (hLn : Ln ≤ 260) (hG : gC (xA s.heap.size) (cpT qb qs qu qr qe qk [qg 0, qm 0, qw 0])) (H : Heap) (locs : List Loc) (ls : Array Slot) (cells slots : Nat) (hcc : cells ≤ 100) (hss : slots ≤ 3000) (hI : OI (dC, dI) cI cB qb qs qu qr qe qk qx qd kk (bI0, sI0, uI0, tZ, tZ) H) (hW : va_P (dC, dI) vwCl (arW qg qm qw cI g m9 w) H) (hS : va_S (xA s.heap.size) s.heap H locs) (hl : lv_has ls 9 [(4, .ref (qw 0)), (3, .ref (qm 0)), (2, .ref (qg 0)), (1, .ref (qk 0)), (0, .ref ba)]) : W p l e room_1 s m #[Value.ref ba] below meth c H locs cells slots (lw_Z below #[Value.ref ba] s) (F0 m 24 ls []) := by
  obtain ⟨A, hAe⟩ : ∃ A, A = xA s.heap.size := ⟨_, rfl⟩
  rw [← hAe] at hG hS
  have hA : ∀ q : Nat, s.heap.size ≤ q → A q := by rw [hAe]; exact fun q h => h
  have hN : ∀ q : Nat, A q → s.heap.size ≤ q := by rw [hAe]; exact fun q h => h
  have hbA : ¬ A ba := by rw [hAe]; exact Nat.not_le.mpr hbl
  have hN0 : s.heap.size ≤ s.heap.size := Nat.le_refl _
  refine lv_aload_n hx hb dL_law_24 rfl (lv_at hl 2 rfl) ?_
  refine lv_iconst (v := 0) hx hb dL_law_25 (by decide) ?_
  refine lv_bipush (v := 10) hx hb dL_law_26 (by decide) ?_
  refine o_iast (D := (dC, dI)) (tys := tYS cI cB cO cL) (k := 0) hx hb hK hG hI hW hS rfl 0 0 rfl rfl (by decide) (by decide) (by decide) dL_law_28 (fun H locs hI hW hS => ?_)
  obtain ⟨ga, e_ga⟩ : ∃ z9 : Nat → Int32, z9 = upd g 0 10 := ⟨_, rfl⟩
  have hW : va_P (dC, dI) vwCl (arW qg qm qw cI ga m9 w) H := by rw [e_ga]; exact hW
  refine lv_aload_n hx hb dL_law_29 rfl (lv_at hl 2 rfl) ?_
  refine lv_iconst (v := 1) hx hb dL_law_30 (by decide) ?_
  refine lv_bipush (v := 8) hx hb dL_law_31 (by decide) ?_
  refine o_iast (D := (dC, dI)) (tys := tYS cI cB cO cL) (k := 1) hx hb hK hG hI hW hS rfl 0 0 rfl rfl (by decide) (by decide) (by decide) dL_law_33 (fun H locs hI hW hS => ?_)
  obtain ⟨gb, e_gb⟩ : ∃ z9 : Nat → Int32, z9 = upd ga 1 8 := ⟨_, rfl⟩
  have hW : va_P (dC, dI) vwCl (arW qg qm qw cI gb m9 w) H := by rw [e_gb]; exact hW
  refine lv_aload_n hx hb dL_law_34 rfl (lv_at hl 2 rfl) ?_
  refine lv_bipush (v := 6) hx hb dL_law_35 (by decide) ?_
  refine lv_iconst (v := 1) hx hb dL_law_37 (by decide) ?_
  refine o_iast (D := (dC, dI)) (tys := tYS cI cB cO cL) (k := 6) hx hb hK hG hI hW hS rfl 0 0 rfl rfl (by decide) (by decide) (by decide) dL_law_38 (fun H locs hI hW hS => ?_)
  obtain ⟨gc, e_gc⟩ : ∃ z9 : Nat → Int32, z9 = upd gb 6 1 := ⟨_, rfl⟩
  have hW : va_P (dC, dI) vwCl (arW qg qm qw cI gc m9 w) H := by rw [e_gc]; exact hW
  refine lv_aload_n hx hb dL_law_39 rfl (lv_at hl 2 rfl) ?_
  refine lv_bipush (v := 7) hx hb dL_law_40 (by decide) ?_
  refine lv_sipush (v := 340) hx hb dL_law_42 (by decide) ?_
  refine o_iast (D := (dC, dI)) (tys := tYS cI cB cO cL) (k := 7) hx hb hK hG hI hW hS rfl 0 0 rfl rfl (by decide) (by decide) (by decide) dL_law_45 (fun H locs hI hW hS => ?_)
  obtain ⟨gd, e_gd⟩ : ∃ z9 : Nat → Int32, z9 = upd gc 7 340 := ⟨_, rfl⟩
  have hW : va_P (dC, dI) vwCl (arW qg qm qw cI gd m9 w) H := by rw [e_gd]; exact hW
  refine lv_aload_n hx hb dL_law_46 rfl (lv_at hl 2 rfl) ?_
  refine lv_bipush (v := 8) hx hb dL_law_47 (by decide) ?_
  refine lv_iconst (v := 1) hx hb dL_law_49 (by decide) ?_
  refine o_iast (D := (dC, dI)) (tys := tYS cI cB cO cL) (k := 8) hx hb hK hG hI hW hS rfl 0 0 rfl rfl (by decide) (by decide) (by decide) dL_law_50 (fun H locs hI hW hS => ?_)
  obtain ⟨ge, e_ge⟩ : ∃ z9 : Nat → Int32, z9 = upd gd 8 1 := ⟨_, rfl⟩
  have hW : va_P (dC, dI) vwCl (arW qg qm qw cI ge m9 w) H := by rw [e_ge]; exact hW
  refine lv_aload_n hx hb dL_law_51 rfl (lv_at hl 2 rfl) ?_
  refine lv_bipush (v := 11) hx hb dL_law_52 (by decide) ?_
  refine lv_bipush (v := 10) hx hb dL_law_54 (by decide) ?_
  refine o_iast (D := (dC, dI)) (tys := tYS cI cB cO cL) (k := 11) hx hb hK hG hI hW hS rfl 0 0 rfl rfl (by decide) (by decide) (by decide) dL_law_56 (fun H locs hI hW hS => ?_)
  obtain ⟨gf, e_gf⟩ : ∃ z9 : Nat → Int32, z9 = upd ge 11 10 := ⟨_, rfl⟩
  have hW : va_P (dC, dI) vwCl (arW qg qm qw cI gf m9 w) H := by rw [e_gf]; exact hW
  refine lv_aload_n hx hb dL_law_57 rfl (lv_at hl 2 rfl) ?_
  refine lv_bipush (v := 13) hx hb dL_law_58 (by decide) ?_
  refine lv_bipush (v := 20) hx hb dL_law_60 (by decide) ?_
  refine o_iast (D := (dC, dI)) (tys := tYS cI cB cO cL) (k := 13) hx hb hK hG hI hW hS rfl 0 0 rfl rfl (by decide) (by decide) (by decide) dL_law_62 (fun H locs hI hW hS => ?_)
  obtain ⟨gg, e_gg⟩ : ∃ z9 : Nat → Int32, z9 = upd gf 13 20 := ⟨_, rfl⟩
  have hW : va_P (dC, dI) vwCl (arW qg qm qw cI gg m9 w) H := by rw [e_gg]; exact hW
  have hg9 : ∀ q, q < 14 → gg q = g0L.getD q 0 := by
    intro q hq
    have : q = 0 ∨ q = 1 ∨ q = 2 ∨ q = 3 ∨ q = 4 ∨ q = 5 ∨ q = 6 ∨ q = 7 ∨ q = 8 ∨ q = 9 ∨ q = 10 ∨ q = 11 ∨ q = 12 ∨ q = 13 := by omega
    rcases this with e | e | e | e | e | e | e | e | e | e | e | e | e | e <;> rw [e]
    · rw [e_gg, upd_ne _ _ (show 0 ≠ 13 by omega), e_gf, upd_ne _ _ (show 0 ≠ 11 by omega), e_ge, upd_ne _ _ (show 0 ≠ 8 by omega), e_gd, upd_ne _ _ (show 0 ≠ 7 by omega), e_gc, upd_ne _ _ (show 0 ≠ 6 by omega), e_gb, upd_ne _ _ (show 0 ≠ 1 by omega), e_ga, upd_eq]
      rfl
    · rw [e_gg, upd_ne _ _ (show 1 ≠ 13 by omega), e_gf, upd_ne _ _ (show 1 ≠ 11 by omega), e_ge, upd_ne _ _ (show 1 ≠ 8 by omega), e_gd, upd_ne _ _ (show 1 ≠ 7 by omega), e_gc, upd_ne _ _ (show 1 ≠ 6 by omega), e_gb, upd_eq]
      rfl
    · rw [show gg 2 = g 2 from by rw [e_gg, upd_ne _ _ (show 2 ≠ 13 by omega), e_gf, upd_ne _ _ (show 2 ≠ 11 by omega), e_ge, upd_ne _ _ (show 2 ≠ 8 by omega), e_gd, upd_ne _ _ (show 2 ≠ 7 by omega), e_gc, upd_ne _ _ (show 2 ≠ 6 by omega), e_gb, upd_ne _ _ (show 2 ≠ 1 by omega), e_ga, upd_ne _ _ (show 2 ≠ 0 by omega)]]
      exact hg0 _
    · rw [show gg 3 = g 3 from by rw [e_gg, upd_ne _ _ (show 3 ≠ 13 by omega), e_gf, upd_ne _ _ (show 3 ≠ 11 by omega), e_ge, upd_ne _ _ (show 3 ≠ 8 by omega), e_gd, upd_ne _ _ (show 3 ≠ 7 by omega), e_gc, upd_ne _ _ (show 3 ≠ 6 by omega), e_gb, upd_ne _ _ (show 3 ≠ 1 by omega), e_ga, upd_ne _ _ (show 3 ≠ 0 by omega)]]
      exact hg0 _
    · rw [show gg 4 = g 4 from by rw [e_gg, upd_ne _ _ (show 4 ≠ 13 by omega), e_gf, upd_ne _ _ (show 4 ≠ 11 by omega), e_ge, upd_ne _ _ (show 4 ≠ 8 by omega), e_gd, upd_ne _ _ (show 4 ≠ 7 by omega), e_gc, upd_ne _ _ (show 4 ≠ 6 by omega), e_gb, upd_ne _ _ (show 4 ≠ 1 by omega), e_ga, upd_ne _ _ (show 4 ≠ 0 by omega)]]
      exact hg0 _
    · rw [show gg 5 = g 5 from by rw [e_gg, upd_ne _ _ (show 5 ≠ 13 by omega), e_gf, upd_ne _ _ (show 5 ≠ 11 by omega), e_ge, upd_ne _ _ (show 5 ≠ 8 by omega), e_gd, upd_ne _ _ (show 5 ≠ 7 by omega), e_gc, upd_ne _ _ (show 5 ≠ 6 by omega), e_gb, upd_ne _ _ (show 5 ≠ 1 by omega), e_ga, upd_ne _ _ (show 5 ≠ 0 by omega)]]
      exact hg0 _
    · rw [e_gg, upd_ne _ _ (show 6 ≠ 13 by omega), e_gf, upd_ne _ _ (show 6 ≠ 11 by omega), e_ge, upd_ne _ _ (show 6 ≠ 8 by omega), e_gd, upd_ne _ _ (show 6 ≠ 7 by omega), e_gc, upd_eq]
      rfl
    · rw [e_gg, upd_ne _ _ (show 7 ≠ 13 by omega), e_gf, upd_ne _ _ (show 7 ≠ 11 by omega), e_ge, upd_ne _ _ (show 7 ≠ 8 by omega), e_gd, upd_eq]
      rfl
    · rw [e_gg, upd_ne _ _ (show 8 ≠ 13 by omega), e_gf, upd_ne _ _ (show 8 ≠ 11 by omega), e_ge, upd_eq]
      rfl
    · rw [show gg 9 = g 9 from by rw [e_gg, upd_ne _ _ (show 9 ≠ 13 by omega), e_gf, upd_ne _ _ (show 9 ≠ 11 by omega), e_ge, upd_ne _ _ (show 9 ≠ 8 by omega), e_gd, upd_ne _ _ (show 9 ≠ 7 by omega), e_gc, upd_ne _ _ (show 9 ≠ 6 by omega), e_gb, upd_ne _ _ (show 9 ≠ 1 by omega), e_ga, upd_ne _ _ (show 9 ≠ 0 by omega)]]
      exact hg0 _
    · rw [show gg 10 = g 10 from by rw [e_gg, upd_ne _ _ (show 10 ≠ 13 by omega), e_gf, upd_ne _ _ (show 10 ≠ 11 by omega), e_ge, upd_ne _ _ (show 10 ≠ 8 by omega), e_gd, upd_ne _ _ (show 10 ≠ 7 by omega), e_gc, upd_ne _ _ (show 10 ≠ 6 by omega), e_gb, upd_ne _ _ (show 10 ≠ 1 by omega), e_ga, upd_ne _ _ (show 10 ≠ 0 by omega)]]
      exact hg0 _
    · rw [e_gg, upd_ne _ _ (show 11 ≠ 13 by omega), e_gf, upd_eq]
      rfl
    · rw [show gg 12 = g 12 from by rw [e_gg, upd_ne _ _ (show 12 ≠ 13 by omega), e_gf, upd_ne _ _ (show 12 ≠ 11 by omega), e_ge, upd_ne _ _ (show 12 ≠ 8 by omega), e_gd, upd_ne _ _ (show 12 ≠ 7 by omega), e_gc, upd_ne _ _ (show 12 ≠ 6 by omega), e_gb, upd_ne _ _ (show 12 ≠ 1 by omega), e_ga, upd_ne _ _ (show 12 ≠ 0 by omega)]]
      exact hg0 _
    · rw [e_gg, upd_eq]
      rfl
  have hRel : RelT (bI0, sI0, uI0, tZ, tZ) gg m9 w := Rel0 hg9
  refine lv_aload_n hx hb dL_law_63 rfl (lv_at hl 3 rfl) ?_
  refine lv_aload_n hx hb dL_law_64 rfl (lv_at hl 2 rfl) ?_
  refine lv_aload_n hx hb dL_law_65 rfl (lv_at hl 1 rfl) ?_
  refine lv_aload hx hb dL_law_66 (lv_at hl 0 rfl) ?_
  refine u_call (va_runS (As := [.ref (qk 0), .ref (qg 0), .ref (qm 0), .ref (qw 0)]) (rest := []) ⟨hx, hb, hml, hown, hts⟩ (mL_isSo l hfl dC dI cI cB cO cL s.heap.size sT eA qb qs qu qr qe qk qx qd qg qm qw bI0 sI0 uI0 tZ tZ gg m9 w kk _ (Nat.le_trans hN0 hS.1) (gC_le hG hN) hRel) (va_cwS 4 hts (gT_in gQ_L_isSo_185) rfl rfl rfl (by decide +kernel) ⟨Nat.le_of_ble_eq_true rfl, Nat.le_of_ble_eq_true rfl⟩) ⟨tP_blind, tP_ok (A := A) ⟨hI, hW⟩ hK hF hC hS hN⟩ rfl rfl hl.1 rfl (lv_room (Nat.le_of_ble_eq_true rfl)) dL_law_68 ⟨(by omega : cells + 304 ≤ 600086), (by omega : slots + 1824 ≤ 7301442)⟩) hG hA hS (fun v9 g9 m8 w9 H locs hRel hI hW hS => ?_)
  obtain ⟨b, s9, u, tr, te⟩ := v9
  refine lv_istore (lv' := [(5, .int 1), (4, .ref (qw 0)), (3, .ref (qm 0)), (2, .ref (qg 0)), (1, .ref (qk 0)), (0, .ref (ba))]) hx hb dL_law_71 hl (by decide) rfl (fun ls hl => ?_)
  refine lv_bipush (v := 10) hx hb dL_law_73 (by decide) ?_
  refine lv_aload_n hx hb dL_law_75 rfl (lv_at hl 5 rfl) ?_
  refine lv_iconst (v := 0) hx hb dL_law_76 (by decide) ?_
  refine tp_i (show (0 : Int32) = nI 0 from rfl) ?_
  refine gro_i (va_runS (As := [.ref (ba), .int (nI 0)]) (rest := [.int 10]) ⟨hx, hb, hml, hown, hts⟩ (mL_cell l ba Ln xs (0) hLn (by omega)) (va_cwS 2 hts (gT_in gQ_L_cell_189) rfl rfl rfl (by decide +kernel) ⟨Nat.le_of_ble_eq_true rfl, Nat.le_of_ble_eq_true rfl⟩) ⟨xP_blind, xP_ok hX hbl hS hbA⟩ rfl rfl hl.1 rfl (lv_room (Nat.le_of_ble_eq_true rfl)) dL_law_77 ⟨(by omega : cells + 304 + 0 ≤ 600086), (by omega : slots + 1824 + 0 ≤ 7301442)⟩) ?_
  refine lv_topi (fun z0 e_z0 => ?_)
  refine lv_bipush (v := 60) hx hb dL_law_80 (by decide) ?_
  refine gro_i (va_runS (As := [.int z0, .int 60]) (rest := [.int 10]) ⟨hx, hb, hml, hown, hts⟩ (mL_low l dC dI cI cB cO cL z0 60 (show ¬ (60 : Int32) = 0 by decide)) (va_cwS 2 hts (gT_in gQ_L_low_40) rfl rfl rfl (by decide +kernel) ⟨Nat.le_of_ble_eq_true rfl, Nat.le_of_ble_eq_true rfl⟩) ⟨gP_blind, gP_ok va_P_nil hK⟩ rfl rfl hl.1 rfl (lv_room (Nat.le_of_ble_eq_true rfl)) dL_law_82 ⟨(by omega : cells + 304 + 0 ≤ 600086), (by omega : slots + 1824 + 0 ≤ 7301442)⟩) ?_
  obtain ⟨j6, hj6, ej6⟩ := low_lt z0 (n := 60) (by decide) (by decide)
  refine tp_i (show (pL_low z0 60) = nI j6 from ej6) ?_
  refine lv_iadd hx hb dL_law_85 ?_
  refine tp_i (show ((10 : Int32) + (nI j6)) = nI (10 + j6) from nI_add 10 j6) ?_
  refine lv_istore (lv' := [(6, .int (nI (10 + j6))), (5, .int 1), (4, .ref (qw 0)), (3, .ref (qm 0)), (2, .ref (qg 0)), (1, .ref (qk 0)), (0, .ref (ba))]) hx hb dL_law_86 hl (by decide) rfl (fun ls hl => ?_)
  refine lv_iconst (v := 0) hx hb dL_law_88 (by decide) ?_
  refine lv_istore (lv' := [(7, .int 0), (6, .int (nI (10 + j6))), (5, .int 1), (4, .ref (qw 0)), (3, .ref (qm 0)), (2, .ref (qg 0)), (1, .ref (qk 0)), (0, .ref (ba))]) hx hb dL_law_89 hl (by decide) rfl (fun ls hl => ?_)
  have T91 : ∀ (n : Nat) (k : Nat) (b : BS) (s9 : SS) (u : US) (tr : TS) (te : TS) (g9 : Nat → Int32) (m8 : Nat → Int32) (w9 : Nat → Int32) (H : Heap) (locs : List Loc) (cells slots : Nat), k + n = 10 + j6 → RelT (b, s9, u, tr, te) g9 m8 w9 → OI (dC, dI) cI cB qb qs qu qr qe qk qx qd kk (b, s9, u, tr, te) H → va_P (dC, dI) vwCl (arW qg qm qw cI g9 m8 w9) H → va_S A s.heap H locs → ∀ ls : Array Slot, lv_has ls 9 [(7, .int (nI k)), (6, .int (nI (10 + j6))), (5, .int 1), (4, .ref (qw 0)), (3, .ref (qm 0)), (2, .ref (qg 0)), (1, .ref (qk 0)), (0, .ref (ba))] → cells + (514 * n + 16) ≤ 600086 → slots + (3192 * n + 96) ≤ 7301442 → W p l e room_1 s m #[Value.ref ba] below meth c H locs (cells) (slots) (lw_Z below #[Value.ref ba] s) (F0 m 91 ls []) := by
    intro n
    induction n with
    | zero =>
      intro k b s9 u tr te g9 m8 w9 H locs cells slots hk hRel hI hW hS ls hl hcc hss
      have hk : k = 10 + j6 := by omega
      obtain ⟨Cn, Rn, Mn, Wn, Nn, hD, hV, hU⟩ := hRel
      obtain ⟨hlC, hlR, hlM, hlW, hlN⟩ := hD.1.le
      refine lv_iload hx hb dL_law_91 (lv_at hl 0 rfl) ?_
      refine lv_iload hx hb dL_law_93 (lv_at hl 1 rfl) ?_
      refine lv_icmp_ge (tgt := 179) hx hb dL_law_95 (by decide) (fun _ => ?_) (fun h => absurd (nI_le (a := 10 + j6) (b := k) (by omega) (by omega)) h)
      refine lv_iload hx hb dL_law_179 (lv_at hl 2 rfl) ?_
      refine lv_if_eq (tgt := 239) hx hb dL_law_181 (by decide) (fun h => absurd h (by decide)) (fun _ => ?_)
      refine lv_aload_n hx hb dL_law_184 rfl (lv_at hl 6 rfl) ?_
      refine lv_aload_n hx hb dL_law_185 rfl (lv_at hl 5 rfl) ?_
      refine lv_iconst (v := 2) hx hb dL_law_186 (by decide) ?_
      refine g_ialdK (D := (dC, dI)) (tys := tYS cI cB cO cL) (k := 2) hx hb hK hW 0 0 rfl rfl (by decide) (by decide) (by decide) dL_law_187 ?_
      refine tp_i (show (g9 2) = nI Mn from hD.1.eM) ?_
      have f1 := note_no hD.1 kk
      refine w_noteOf (R := room_1) (cells := cells) (slots := slots) (wo := arW qg qm qw cI g9 m8 w9) hfl hx hb hml hown hts hK hF hC hN hG hA rfl hN0 hS hI hW f1.1 f1.2 (Or.inr rfl) ⟨Nat.le_of_ble_eq_true rfl, Nat.le_of_ble_eq_true rfl⟩ ((-100000001)) (rfl) (Nat.le_of_ble_eq_true rfl) hl.1 dL_law_188 ⟨(by omega : cells + 4 ≤ 600086), (by omega : slots + 24 ≤ 7301442)⟩ (fun H locs hI hW hS => ?_)
      refine lv_ldc (v := (-100000001)) hx hb hown (hts (.constant RL 63 (-100000001)) (gTt tw521)) dL_law_191 ?_
      refine lv_icmp_ne (tgt := 239) hx hb dL_law_193 (by decide) (fun h => absurd (rfl) h) (fun _ => ?_)
      refine lv_aload_n hx hb dL_law_196 rfl (lv_at hl 6 rfl) ?_
      refine lv_bipush (v := 11) hx hb dL_law_197 (by decide) ?_
      have f2 := whole_no s9 b kk
      refine w_wholeOf (R := room_1) (cells := cells + 4) (slots := slots + 24) (wo := arW qg qm qw cI g9 m8 w9) hfl hx hb hml hown hts hK hF hC hN hG hA rfl hN0 hS hI hW f2.1 f2.2 (Or.inr rfl) ⟨Nat.le_of_ble_eq_true rfl, Nat.le_of_ble_eq_true rfl⟩ ((-100000002)) (rfl) (Nat.le_of_ble_eq_true rfl) hl.1 dL_law_199 ⟨(by omega : cells + 4 + 4 ≤ 600086), (by omega : slots + 24 + 24 ≤ 7301442)⟩ (fun H locs hI hW hS => ?_)
      refine lv_ldc (v := (-100000002)) hx hb hown (hts (.constant RL 48 (-100000002)) (gTt tw443)) dL_law_202 ?_
      refine lv_icmp_ne (tgt := 239) hx hb dL_law_204 (by decide) (fun h => absurd (rfl) h) (fun _ => ?_)
      refine lv_aload_n hx hb dL_law_207 rfl (lv_at hl 6 rfl) ?_
      refine lv_iconst (v := 3) hx hb dL_law_208 (by decide) ?_
      refine lv_bipush (v := 7) hx hb dL_law_209 (by decide) ?_
      refine lv_iconst (v := 0) hx hb dL_law_211 (by decide) ?_
      have f3 := part3_no hD.1 kk
      refine w_partOf (R := room_1) (cells := cells + 8) (slots := slots + 48) (wo := arW qg qm qw cI g9 m8 w9) hfl hx hb hml hown hts hK hF hC hN hG hA rfl hN0 hS hI hW f3.1 f3.2 (Or.inr (Or.inr rfl)) ⟨Nat.le_of_ble_eq_true rfl, Nat.le_of_ble_eq_true rfl⟩ ((-100000001)) (rfl) (Nat.le_of_ble_eq_true rfl) hl.1 dL_law_212 ⟨(by omega : cells + 8 + 4 ≤ 600086), (by omega : slots + 48 + 24 ≤ 7301442)⟩ (fun H locs hI hW hS => ?_)
      refine lv_ldc (v := (-100000001)) hx hb hown (hts (.constant RL 63 (-100000001)) (gTt tw521)) dL_law_215 ?_
      refine lv_icmp_ne (tgt := 239) hx hb dL_law_217 (by decide) (fun h => absurd (rfl) h) (fun _ => ?_)
      refine lv_aload_n hx hb dL_law_220 rfl (lv_at hl 6 rfl) ?_
      refine lv_iconst (v := 3) hx hb dL_law_221 (by decide) ?_
      refine lv_bipush (v := 6) hx hb dL_law_222 (by decide) ?_
      refine lv_iconst (v := 0) hx hb dL_law_224 (by decide) ?_
      have f4 := part3 hD kk (i := 6) (by omega)
      refine w_partOf (R := room_1) (cells := cells + 12) (slots := slots + 72) (wo := arW qg qm qw cI g9 m8 w9) hfl hx hb hml hown hts hK hF hC hN hG hA rfl hN0 hS hI hW f4.1 f4.2 (Or.inl rfl) ⟨Nat.le_of_ble_eq_true rfl, Nat.le_of_ble_eq_true rfl⟩ ((g9 (7 + 6))) (rfl) (Nat.le_of_ble_eq_true rfl) hl.1 dL_law_225 ⟨(by omega : cells + 12 + 4 ≤ 600086), (by omega : slots + 72 + 24 ≤ 7301442)⟩ (fun H locs hI hW hS => ?_)
      refine lv_aload_n hx hb dL_law_228 rfl (lv_at hl 5 rfl) ?_
      refine lv_bipush (v := 13) hx hb dL_law_229 (by decide) ?_
      refine g_ialdK (D := (dC, dI)) (tys := tYS cI cB cO cL) (k := 13) hx hb hK hW 0 0 rfl rfl (by decide) (by decide) (by decide) dL_law_231 ?_
      refine lv_icmp_ne (tgt := 239) hx hb dL_law_232 (by decide) (fun h => absurd (rfl) h) (fun _ => ?_)
      refine lv_iconst (v := 1) hx hb dL_law_235 (by decide) ?_
      refine lv_goto (tgt := 240) hx hb dL_law_236 (by decide) ?_
      rw [hAe] at hS
      refine va_forget hS.2.2 ?_
      refine W.widen (k := 600086) (n := 7301442) (by omega) (by omega) ?_
      exact lw_ret hx hb hr hlocks dL_law_240
    | succ n ih =>
      intro k b s9 u tr te g9 m8 w9 H locs cells slots hk hRel hI hW hS ls hl hcc hss
      refine lv_iload hx hb dL_law_91 (lv_at hl 0 rfl) ?_
      refine lv_iload hx hb dL_law_93 (lv_at hl 1 rfl) ?_
      refine lv_icmp_ge (tgt := 179) hx hb dL_law_95 (by decide) (fun h => absurd h (nI_ge (a := k) (b := 10 + j6) (by omega) (by omega))) (fun _ => ?_)
      refine lv_iload hx hb dL_law_98 (lv_at hl 2 rfl) ?_
      refine lv_if_eq (tgt := 179) hx hb dL_law_100 (by decide) (fun h => absurd h (by decide)) (fun _ => ?_)
      refine lv_aload_n hx hb dL_law_103 rfl (lv_at hl 7 rfl) ?_
      refine lv_iconst (v := 1) hx hb dL_law_104 (by decide) ?_
      refine lv_iload hx hb dL_law_105 (lv_at hl 0 rfl) ?_
      refine lv_iadd hx hb dL_law_107 ?_
      refine tp_i (show ((1 : Int32) + (nI k)) = nI (1 + k) from nI_add 1 k) ?_
      refine gro_i (va_runS (As := [.ref (ba), .int (nI (1 + k))]) (rest := []) ⟨hx, hb, hml, hown, hts⟩ (mL_cell l ba Ln xs (1 + k) hLn (by omega)) (va_cwS 2 hts (gT_in gQ_L_cell_189) rfl rfl rfl (by decide +kernel) ⟨Nat.le_of_ble_eq_true rfl, Nat.le_of_ble_eq_true rfl⟩) ⟨xP_blind, xP_ok hX hbl hS hbA⟩ rfl rfl hl.1 rfl (lv_room (Nat.le_of_ble_eq_true rfl)) dL_law_108 ⟨(by omega : cells + 0 ≤ 600086), (by omega : slots + 0 ≤ 7301442)⟩) ?_
      refine lv_sipush (v := 7919) hx hb dL_law_111 (by decide) ?_
      refine lv_iload hx hb dL_law_114 (lv_at hl 0 rfl) ?_
      refine lv_imul hx hb dL_law_116 ?_
      refine tp_i (show ((7919 : Int32) * (nI k)) = nI (7919 * k) from pk_mul 7919 k) ?_
      refine lv_ixor hx hb dL_law_117 ?_
      refine lv_topi (fun z9 e_z9 => ?_)
      refine lv_istore (lv' := [(8, .int z9), (7, .int (nI k)), (6, .int (nI (10 + j6))), (5, .int 1), (4, .ref (qw 0)), (3, .ref (qm 0)), (2, .ref (qg 0)), (1, .ref (qk 0)), (0, .ref (ba))]) hx hb dL_law_118 hl (by decide) rfl (fun ls hl => ?_)
      refine lv_aload_n hx hb dL_law_120 rfl (lv_at hl 7 rfl) ?_
      refine lv_aload_n hx hb dL_law_121 rfl (lv_at hl 6 rfl) ?_
      refine lv_aload_n hx hb dL_law_122 rfl (lv_at hl 5 rfl) ?_
      refine lv_aload hx hb dL_law_123 (lv_at hl 4 rfl) ?_
      refine lv_iload hx hb dL_law_125 (lv_at hl 0 rfl) ?_
      refine u_call (va_runS (As := [.ref (qk 0), .ref (qg 0), .ref (qm 0), .ref (qw 0), .int z9]) (rest := []) ⟨hx, hb, hml, hown, hts⟩ (mL_acts l hfl dC dI cI cB cO cL s.heap.size sT eA qb qs qu qr qe qk qx qd qg qm qw b s9 u tr te g9 m8 w9 kk z9 _ (Nat.le_trans hN0 hS.1) (gC_le hG hN) hRel) (va_cwS 5 hts (gT_in gQ_L_acts_192) rfl rfl rfl (by decide +kernel) ⟨Nat.le_of_ble_eq_true rfl, Nat.le_of_ble_eq_true rfl⟩) ⟨tP_blind, tP_ok (A := A) ⟨hI, hW⟩ hK hF hC hS hN⟩ rfl rfl hl.1 rfl (lv_room (Nat.le_of_ble_eq_true rfl)) dL_law_127 ⟨(by omega : cells + 5 ≤ 600086), (by omega : slots + 84 ≤ 7301442)⟩) hG hA hS (fun v9 g9 m8 w9 H locs hRel hI hW hS => ?_)
      obtain ⟨b, s9, u, tr, te⟩ := v9
      refine lv_if_eq (tgt := 170) hx hb dL_law_130 (by decide) (fun h => absurd h (by decide)) (fun _ => ?_)
      refine lv_aload_n hx hb dL_law_133 rfl (lv_at hl 7 rfl) ?_
      refine lv_aload_n hx hb dL_law_134 rfl (lv_at hl 6 rfl) ?_
      refine lv_aload_n hx hb dL_law_135 rfl (lv_at hl 5 rfl) ?_
      refine lv_aload hx hb dL_law_136 (lv_at hl 4 rfl) ?_
      refine u_call (va_runS (As := [.ref (qk 0), .ref (qg 0), .ref (qm 0), .ref (qw 0)]) (rest := []) ⟨hx, hb, hml, hown, hts⟩ (mL_isSo l hfl dC dI cI cB cO cL s.heap.size sT eA qb qs qu qr qe qk qx qd qg qm qw b s9 u tr te g9 m8 w9 kk _ (Nat.le_trans hN0 hS.1) (gC_le hG hN) hRel) (va_cwS 4 hts (gT_in gQ_L_isSo_185) rfl rfl rfl (by decide +kernel) ⟨Nat.le_of_ble_eq_true rfl, Nat.le_of_ble_eq_true rfl⟩) ⟨tP_blind, tP_ok (A := A) ⟨hI, hW⟩ hK hF hC hS hN⟩ rfl rfl hl.1 rfl (lv_room (Nat.le_of_ble_eq_true rfl)) dL_law_138 ⟨(by omega : cells + 5 + 304 ≤ 600086), (by omega : slots + 84 + 1824 ≤ 7301442)⟩) hG hA hS (fun v9 g9 m8 w9 H locs hRel hI hW hS => ?_)
      obtain ⟨b, s9, u, tr, te⟩ := v9
      refine lv_if_eq (tgt := 170) hx hb dL_law_141 (by decide) (fun h => absurd h (by decide)) (fun _ => ?_)
      refine lv_iload hx hb dL_law_144 (lv_at hl 1 rfl) ?_
      refine lv_iconst (v := 3) hx hb dL_law_146 (by decide) ?_
      refine lv_irem hx hb dL_law_147 (by decide) ?_
      refine tp_i (show ((nI k) - (nI k) / (3 : Int32) * (3 : Int32)) = nI (k % 3) from nx_rem (a := k) (d := 3) (by omega) (by omega) (by omega)) ?_
      by_cases h3 : k % 3 = 0
      · refine lv_if_gt (tgt := 166) hx hb dL_law_148 (by decide) (fun h => absurd h (by rw [h3]; decide)) (fun _ => ?_)
        refine lv_aload_n hx hb dL_law_151 rfl (lv_at hl 7 rfl) ?_
        refine lv_aload_n hx hb dL_law_152 rfl (lv_at hl 6 rfl) ?_
        refine lv_aload_n hx hb dL_law_153 rfl (lv_at hl 5 rfl) ?_
        refine lv_aload hx hb dL_law_154 (lv_at hl 4 rfl) ?_
        refine lv_iload hx hb dL_law_156 (lv_at hl 0 rfl) ?_
        refine lv_iconst (v := 4) hx hb dL_law_158 (by decide) ?_
        refine lv_ishr hx hb dL_law_159 ?_
        refine lv_topi (fun z8 e_z8 => ?_)
        refine u_call (va_runS (As := [.ref (qk 0), .ref (qg 0), .ref (qm 0), .ref (qw 0), .int z8]) (rest := []) ⟨hx, hb, hml, hown, hts⟩ (mL_areListed l hfl dC dI cI cB cO cL s.heap.size sT eA qb qs qu qr qe qk qx qd qg qm qw b s9 u tr te g9 m8 w9 kk z8 _ (Nat.le_trans hN0 hS.1) (gC_le hG hN) hRel) (va_cwS 5 hts (gT_in gQ_L_areListed_196) rfl rfl rfl (by decide +kernel) ⟨Nat.le_of_ble_eq_true rfl, Nat.le_of_ble_eq_true rfl⟩) ⟨tP_blind, tP_ok (A := A) ⟨hI, hW⟩ hK hF hC hS hN⟩ rfl rfl hl.1 rfl (lv_room (Nat.le_of_ble_eq_true rfl)) dL_law_160 ⟨(by omega : cells + 309 + 205 ≤ 600086), (by omega : slots + 1908 + 1284 ≤ 7301442)⟩) hG hA hS (fun v9 g9 m8 w9 H locs hRel hI hW hS => ?_)
        obtain ⟨b, s9, u, tr, te⟩ := v9
        refine lv_if_eq (tgt := 170) hx hb dL_law_163 (by decide) (fun h => absurd h (by decide)) (fun _ => ?_)
        refine lv_iconst (v := 1) hx hb dL_law_166 (by decide) ?_
        refine lv_goto (tgt := 171) hx hb dL_law_167 (by decide) ?_
        refine lv_istore (lv' := [(5, .int 1), (8, .int z9), (7, .int (nI k)), (6, .int (nI (10 + j6))), (4, .ref (qw 0)), (3, .ref (qm 0)), (2, .ref (qg 0)), (1, .ref (qk 0)), (0, .ref (ba))]) hx hb dL_law_171 hl (by decide) rfl (fun ls hl => ?_)
        refine lv_iinc (v := (nI (k + 1))) (lv' := [(7, .int (nI (k + 1))), (5, .int 1), (8, .int z9), (6, .int (nI (10 + j6))), (4, .ref (qw 0)), (3, .ref (qm 0)), (2, .ref (qg 0)), (1, .ref (qk 0)), (0, .ref (ba))]) hx hb dL_law_173 hl (k := 2) rfl (nI_add (k) 1) (by decide) rfl (fun ls hl => ?_)
        refine lv_goto (tgt := 91) hx hb dL_law_176 (by decide) ?_
        exact ih (k + 1) b s9 u tr te g9 m8 w9 _ _ _ _ (by omega) hRel hI hW hS _ (lv_sub hl [0, 3, 1, 4, 5, 6, 7, 8] rfl) (by omega) (by omega)
      · refine lv_if_gt (tgt := 166) hx hb dL_law_148 (by decide) (fun _ => ?_) (fun h => absurd (show (0 : Int32) < nI (k % 3) from nI_lt (a := 0) (by omega) (by omega)) h)
        refine lv_iconst (v := 1) hx hb dL_law_166 (by decide) ?_
        refine lv_goto (tgt := 171) hx hb dL_law_167 (by decide) ?_
        refine lv_istore (lv' := [(5, .int 1), (8, .int z9), (7, .int (nI k)), (6, .int (nI (10 + j6))), (4, .ref (qw 0)), (3, .ref (qm 0)), (2, .ref (qg 0)), (1, .ref (qk 0)), (0, .ref (ba))]) hx hb dL_law_171 hl (by decide) rfl (fun ls hl => ?_)
        refine lv_iinc (v := (nI (k + 1))) (lv' := [(7, .int (nI (k + 1))), (5, .int 1), (8, .int z9), (6, .int (nI (10 + j6))), (4, .ref (qw 0)), (3, .ref (qm 0)), (2, .ref (qg 0)), (1, .ref (qk 0)), (0, .ref (ba))]) hx hb dL_law_173 hl (k := 2) rfl (nI_add (k) 1) (by decide) rfl (fun ls hl => ?_)
        refine lv_goto (tgt := 91) hx hb dL_law_176 (by decide) ?_
        exact ih (k + 1) b s9 u tr te g9 m8 w9 _ _ _ _ (by omega) hRel hI hW hS _ (lv_sub hl [0, 3, 1, 4, 5, 6, 7, 8] rfl) (by omega) (by omega)
  exact T91 (10 + j6) 0 b s9 u tr te g9 m8 w9 _ _ _ _ (by omega) hRel hI hW hS _ (lv_sub hl [0, 1, 2, 3, 4, 5, 6, 7] rfl) (by omega) (by omega)
end LRUN
