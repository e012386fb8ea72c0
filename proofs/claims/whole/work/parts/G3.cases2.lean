/-! THE LAW: cases of its loop (2) -/
section CASES2
set_option maxHeartbeats 4000000 in
set_option maxRecDepth 100000 in
theorem w_arrivals (p : Program) (l : Launch) (e : Env) (s : State) (m : MethodId) (below : List Frame) (meth : Method) (c : Code) (b L : Nat) (xs : Nat → Int32) (dC : Nat → ClassId) (dI : Nat → Nat → Nat) (cI cB cO cL : ClassId) (sT eA qb qs qu qr qe qx qd qk qm : Nat → Nat) (ao : Nat) (hLS : LStart p l s m meth c b L xs (dC, dI) cI cB cO cL sT eA qb qs qu qr qe qx qd qk qm ao) (i : Nat) (hi : i + 6 ≤ L) (bs : BS) (s9 : SS) (u : US) (tr te x : TS) (rd : RS) (kk : Int32) (mm : MS) (o : Nat → Int64) (H : Heap) (locs : List Loc) (ls : Array Slot) (cells slots : Nat) (hcl : cells + 4 ≤ 601024) (hsl : slots + 24 ≤ 7293034) (hI : LI (dC, dI) cI cB cO cL eA qb qs qu qr qe qx qd qk qm ao bs s9 u tr te x rd kk mm o H) (hR : SR bs s9 u x kk mm) (hS : va_S (xA s.heap.size) s.heap H locs) (hl : lv_has ls 9 (lvL b ao qm qk i)) (hgo : LGo p l e s m below meth c b (dC, dI) cI cB cO cL eA qb qs qu qr qe qx qd qk qm ao i (cells + 4) (slots + 24)) : W p l e room_1 s m #[Value.ref b] below meth c H locs cells slots (lw_Z below #[Value.ref b] s) (F0 m 1032 ls []) := by
  obtain ⟨hfl, ⟨hx, hb, hr, hml, hown, hts, hlocks⟩, hK, hF, hC, hX, hbl, hL, hG⟩ := hLS
  obtain ⟨hb9, hs9, hu9, hr9, he9, hx9, hd9, hk9, hm9, ho9⟩ := hI
  have hA : ∀ q : Nat, s.heap.size ≤ q → xA s.heap.size q := fun q h => h
  have hIm : gD (fun _ => True) (mAd qm) := gC_T hG [8] rfl rfl
  obtain ⟨c1, r1, tr1, e1, kC, kM, hR, ⟨h3, h4⟩, -⟩ := arrivals_op hR tr (xs (nI i + 1).toNatClampNeg) (xs (nI i + 2).toNatClampNeg) (xs (nI i + 3).toNatClampNeg)
  have hc9 := cod_arrivals (P := fun z => z = 0 ∨ z = 1 ∨ z = 2) tr bs kk (xs (nI i + 1).toNatClampNeg) (xs (nI i + 2).toNatClampNeg) (xs (nI i + 3).toNatClampNeg) (by decide) (by decide) (by decide)
  have hmp := cod_arrivals (P := fun z => rcN 1 z = mpB z) tr bs kk (xs (nI i + 1).toNatClampNeg) (xs (nI i + 2).toNatClampNeg) (xs (nI i + 3).toNatClampNeg) (by decide) (by decide) (by decide)
  rw [e1] at hmp
  have hmp : rcN 1 c1 = mpB c1 := hmp
  have hcl0 : cells + 4 + 0 ≤ 601024 := hcl
  have hsl0 : slots + 24 + 0 ≤ 7293034 := hsl
  refine lv_aload_n hx hb dL_law_1032 rfl (lv_at hl 3 rfl) ?_
  refine lv_aload_n hx hb dL_law_1033 rfl (lv_at hl 4 rfl) ?_
  refine lv_iload hx hb dL_law_1034 (lv_at hl 0 rfl) ?_
  refine lv_iconst (v := 1) hx hb dL_law_1036 (by decide) ?_
  refine lv_iadd hx hb dL_law_1037 ?_
  refine va_sld hx hb hX hbl (Nat.not_le.mpr hbl) hS (w_in (k := 1) hi hL (by omega)) dL_law_1038 ?_
  refine lv_aload_n hx hb dL_law_1039 rfl (lv_at hl 4 rfl) ?_
  refine lv_iload hx hb dL_law_1040 (lv_at hl 0 rfl) ?_
  refine lv_iconst (v := 2) hx hb dL_law_1042 (by decide) ?_
  refine lv_iadd hx hb dL_law_1043 ?_
  refine va_sld hx hb hX hbl (Nat.not_le.mpr hbl) hS (w_in (k := 2) hi hL (by omega)) dL_law_1044 ?_
  refine lv_aload_n hx hb dL_law_1045 rfl (lv_at hl 4 rfl) ?_
  refine lv_iload hx hb dL_law_1046 (lv_at hl 0 rfl) ?_
  refine lv_iconst (v := 3) hx hb dL_law_1048 (by decide) ?_
  refine lv_iadd hx hb dL_law_1049 ?_
  refine va_sld hx hb hX hbl (Nat.not_le.mpr hbl) hS (w_in (k := 3) hi hL (by omega)) dL_law_1050 ?_
  refine lv_aload_n hx hb dL_law_1051 rfl (lv_at hl 1 rfl) ?_
  refine i_call (Wd := fun v9 : (TS × BS × Int32) × (Nat → Int64) => ((fun z9 : TS × BS × Int32 => aw qr cI z9.1 ++ bw qb cI z9.2.1 ++ kw qk qb qr qe qs qu qx qd cI z9.2.2)) v9.1 ++ lo cL ao v9.2) (w0 := aw qr cI tr ++ bw qb cI bs ++ kw qk qb qr qe qs qu qx qd cI kk ++ lo cL ao o) (wo := sw qs cI s9 ++ uw qu cI cB u ++ ew qe cI te ++ xw qx cI x ++ dw qd cI cO eA rd ++ mw qm cI mm) (vx_runSW (mc := 4) (ms := 24) (As := [.ref (qk 0), .int (xs (nI i + 1).toNatClampNeg), .int (xs (nI i + 2).toNatClampNeg), .int (xs (nI i + 3).toNatClampNeg), .ref ao]) (rest := []) ⟨hx, hb, hml, hown, hts⟩ (mL_arrivals l hfl dC dI cI cB cO cL s.heap.size sT eA qr qb qk qe qs qu qx qd tr bs kk (xs (nI i + 1).toNatClampNeg) (xs (nI i + 2).toNatClampNeg) (xs (nI i + 3).toNatClampNeg) ao o H.size hS.1 (gC_T hG [3, 0, 7, 9] rfl rfl) (gC_N hG [3, 0, 7, 9] rfl rfl) kC hc9) (vx_cwSW 5 hts gW_L_arrivals rfl rfl rfl (by decide +kernel) ⟨Nat.le_of_ble_eq_true rfl, Nat.le_of_ble_eq_true rfl⟩) ⟨lP_blind, lP_ok (A := xA s.heap.size) (va_P.app (va_P.app (va_P.app hr9 hb9) hk9) ho9) hK hF hC hS (fun q h => h)⟩ rfl rfl hl.1 rfl (lv_room (Nat.le_of_ble_eq_true rfl)) dL_law_1052 ⟨hcl, hsl⟩) (va_P.app (va_P.app (va_P.app (va_P.app (va_P.app hs9 hu9) he9) hx9) hd9) hm9) (gC_T hG [3, 0, 7, 9, 1, 2, 4, 5, 6, 8] rfl rfl) (fun q h => mem_vA h) (fun q h => mem_vA h) (gC_N hG [3, 0, 7, 9] rfl rfl) hA hS (fun r9 v9 H locs hp hP hO hS => ?_)
  rw [e1, lF_eq] at hp
  obtain ⟨rfl, rfl⟩ := Prod.mk.inj hp
  have hm9 := va_P_suf hO
  have t329 := va_P_pre hO
  have hd9 := va_P_suf t329
  have t349 := va_P_pre t329
  have hx9 := va_P_suf t349
  have t369 := va_P_pre t349
  have he9 := va_P_suf t369
  have t389 := va_P_pre t369
  have hu9 := va_P_suf t389
  have t409 := va_P_pre t389
  have hs9 := t409
  have hP : va_P (dC, dI) vwCl (aw qr cI tr1 ++ bw qb cI bs ++ kw qk qb qr qe qs qu qx qd cI kk ++ lo cL ao (oN c1 r1 o)) H := hP
  have ho9 := va_P_suf hP
  have t449 := va_P_pre hP
  have hk9 := va_P_suf t449
  have t469 := va_P_pre t449
  have hb9 := va_P_suf t469
  have t489 := va_P_pre t469
  have hr9 := t489
  refine lv_istore (lv' := [(5, .int (rcN 1 c1)), (4, .int (nI i)), (3, .ref ao), (2, .ref (qm 0)), (1, .ref (qk 0)), (0, .ref b)]) hx hb dL_law_1055 hl (by decide) rfl (fun ls hl => ?_)
  refine lv_aload_n hx hb dL_law_1057 rfl (lv_at hl 3 rfl) ?_
  refine lv_aload_n hx hb dL_law_1058 rfl (lv_at hl 5 rfl) ?_
  refine lv_iload hx hb dL_law_1059 (lv_at hl 1 rfl) ?_
  refine lv_iconst (v := 1) hx hb dL_law_1061 (by decide) ?_
  refine lv_iadd hx hb dL_law_1062 ?_
  refine va_sld hx hb hX hbl (Nat.not_le.mpr hbl) hS (w_in (k := 1) hi hL (by omega)) dL_law_1063 ?_
  refine lv_aload_n hx hb dL_law_1064 rfl (lv_at hl 5 rfl) ?_
  refine lv_iload hx hb dL_law_1065 (lv_at hl 1 rfl) ?_
  refine lv_iconst (v := 2) hx hb dL_law_1067 (by decide) ?_
  refine lv_iadd hx hb dL_law_1068 ?_
  refine va_sld hx hb hX hbl (Nat.not_le.mpr hbl) hS (w_in (k := 2) hi hL (by omega)) dL_law_1069 ?_
  refine lv_aload_n hx hb dL_law_1070 rfl (lv_at hl 5 rfl) ?_
  refine lv_iload hx hb dL_law_1071 (lv_at hl 1 rfl) ?_
  refine lv_iconst (v := 3) hx hb dL_law_1073 (by decide) ?_
  refine lv_iadd hx hb dL_law_1074 ?_
  refine va_sld hx hb hX hbl (Nat.not_le.mpr hbl) hS (w_in (k := 3) hi hL (by omega)) dL_law_1075 ?_
  refine i_call (Wd := fun m9 => mw qm cI m9) (w0 := mw qm cI mm) (wo := bw qb cI bs ++ sw qs cI s9 ++ uw qu cI cB u ++ aw qr cI tr1 ++ ew qe cI te ++ xw qx cI x ++ dw qd cI cO eA rd ++ kw qk qb qr qe qs qu qx qd cI kk ++ lo cL ao (oN c1 r1 o)) (va_runV (mc := 0) (ms := 0) (As := [.int (xs (nI i + 1).toNatClampNeg), .int (xs (nI i + 2).toNatClampNeg), .int (xs (nI i + 3).toNatClampNeg)]) (rest := []) ⟨hx, hb, hml, hown, hts⟩ (mX12_arrivals l dC dI cI cB cO cL qm mm (xs (nI i + 1).toNatClampNeg) (xs (nI i + 2).toNatClampNeg) (xs (nI i + 3).toNatClampNeg) hIm kM) (cwV 3 hts gW_X12_arrivals rfl rfl rfl (by decide +kernel) ⟨Nat.le_of_ble_eq_true rfl, Nat.le_of_ble_eq_true rfl⟩) ⟨gP_blind, va_recv hK hm9 (ci := 9) (q0 := 0) rfl rfl, gP_ok hm9 hK⟩ rfl rfl hl.1 rfl (lv_room (Nat.le_of_ble_eq_true rfl)) dL_law_1076 ⟨hcl0, hsl0⟩) (va_P.app (va_P.app (va_P.app (va_P.app (va_P.app (va_P.app (va_P.app (va_P.app hb9 hs9) hu9) hr9) he9) hx9) hd9) hk9) ho9) (gC_T hG [8, 0, 1, 2, 3, 4, 5, 6, 7, 9] rfl rfl) (fun q h => Or.inl (mem_wA h)) (fun q h => Or.inl (mem_wA h)) (gC_N hG [8] rfl rfl) hA hS (fun r2 m2 H locs hp2 hm9 hO hS => ?_)
  have hp2 : (r2, m2) = pX12_arrivals mm (xs (nI i + 1).toNatClampNeg) (xs (nI i + 2).toNatClampNeg) (xs (nI i + 3).toNatClampNeg) := hp2
  have ho9 := va_P_suf hO
  have t709 := va_P_pre hO
  have hk9 := va_P_suf t709
  have t729 := va_P_pre t709
  have hd9 := va_P_suf t729
  have t749 := va_P_pre t729
  have hx9 := va_P_suf t749
  have t769 := va_P_pre t749
  have he9 := va_P_suf t769
  have t789 := va_P_pre t769
  have hr9 := va_P_suf t789
  have t809 := va_P_pre t789
  have hu9 := va_P_suf t809
  have t829 := va_P_pre t809
  have hs9 := va_P_suf t829
  have t849 := va_P_pre t829
  have hb9 := t849
  have e2 : r2 = (pX12_arrivals mm (xs (nI i + 1).toNatClampNeg) (xs (nI i + 2).toNatClampNeg) (xs (nI i + 3).toNatClampNeg)).1 := by rw [← hp2]
  have e3 : m2 = (pX12_arrivals mm (xs (nI i + 1).toNatClampNeg) (xs (nI i + 2).toNatClampNeg) (xs (nI i + 3).toNatClampNeg)).2 := by rw [← hp2]
  rw [← e3] at hR h3
  rw [← e2] at h4
  refine lv_istore (lv' := [(6, .int r2), (5, .int (rcN 1 c1)), (4, .int (nI i)), (3, .ref ao), (2, .ref (qm 0)), (1, .ref (qk 0)), (0, .ref b)]) hx hb dL_law_1079 hl (by decide) rfl (fun ls hl => ?_)
  refine lv_aload_n hx hb dL_law_1081 rfl (lv_at hl 4 rfl) ?_
  refine gro_i (va_runV (mc := 0) (ms := 0) (As := []) (rest := []) ⟨hx, hb, hml, hown, hts⟩ (mX12_thrown l dC dI cI cB cO cL qm m2) (cwV 0 hts gW_X12_thrown rfl rfl rfl (by decide +kernel) ⟨Nat.le_of_ble_eq_true rfl, Nat.le_of_ble_eq_true rfl⟩) ⟨gP_blind, va_recv hK hm9 (ci := 9) (q0 := 0) rfl rfl, gP_ok hm9 hK⟩ rfl rfl hl.1 rfl (lv_room (Nat.le_of_ble_eq_true rfl)) dL_law_1082 ⟨hcl0, hsl0⟩) ?_
  refine lv_iload hx hb dL_law_1085 (lv_at hl 1 rfl) ?_
  refine lv_icmp_eq (tgt := 1092) hx hb dL_law_1087 (by decide) (fun _ => ?_) (fun h9 => absurd (show pX12_thrown m2 = rcN 1 c1 from h3.trans hmp.symm) h9)
  refine lv_iload hx hb dL_law_1092 (lv_at hl 1 rfl) ?_
  refine lv_if_ne (tgt := 1109) hx hb dL_law_1094 (by decide) (fun _ => ?_) (fun h9 => ?_)
  · refine lv_goto (tgt := 1972) hx hb dL_law_1109 (by decide) ?_
    exact hgo bs s9 u tr1 te x rd kk m2 ((oN c1 r1 o)) _ _ _ ⟨hb9, hs9, hu9, hr9, he9, hx9, hd9, hk9, hm9, ho9⟩ hR hS (lv_sub hl [2, 3, 4, 5, 6] rfl)
  · refine lv_aload_n hx hb dL_law_1097 rfl (lv_at hl 3 rfl) ?_
    refine lv_iconst (v := 0) hx hb dL_law_1098 (by decide) ?_
    refine va_lald (D := (dC, dI)) (tys := tYS cI cB cO cL) hx hb hK ho9 0 3 rfl rfl (vp_in_n (i := 0) (by omega) (by omega)) dL_law_1099 ?_
    refine lv_iload hx hb dL_law_1100 (lv_at hl 0 rfl) ?_
    refine lv_i2l hx hb dL_law_1102 rfl ?_
    refine W.lcmp hx hb dL_law_1103 ?_
    refine lv_if_eq (tgt := 1109) hx hb dL_law_1104 (by decide) (fun _ => ?_) (fun h8 => absurd ((lg_cmp_eq _ _).mpr ?_) h8)
    · refine lv_goto (tgt := 1972) hx hb dL_law_1109 (by decide) ?_
      exact hgo bs s9 u tr1 te x rd kk m2 ((oN c1 r1 o)) _ _ _ ⟨hb9, hs9, hu9, hr9, he9, hx9, hd9, hk9, hm9, ho9⟩ hR hS (lv_sub hl [2, 3, 4, 5, 6] rfl)
    · have h7 := rcN_0 h9
      show oN c1 r1 o 0 = r2.toInt64
      rw [oN_0 h7, h4 h7]
set_option maxHeartbeats 4000000 in
set_option maxRecDepth 100000 in
theorem w_arrival (p : Program) (l : Launch) (e : Env) (s : State) (m : MethodId) (below : List Frame) (meth : Method) (c : Code) (b L : Nat) (xs : Nat → Int32) (dC : Nat → ClassId) (dI : Nat → Nat → Nat) (cI cB cO cL : ClassId) (sT eA qb qs qu qr qe qx qd qk qm : Nat → Nat) (ao : Nat) (hLS : LStart p l s m meth c b L xs (dC, dI) cI cB cO cL sT eA qb qs qu qr qe qx qd qk qm ao) (i : Nat) (hi : i + 6 ≤ L) (bs : BS) (s9 : SS) (u : US) (tr te x : TS) (rd : RS) (kk : Int32) (mm : MS) (o : Nat → Int64) (H : Heap) (locs : List Loc) (ls : Array Slot) (cells slots : Nat) (hcl : cells + 4 ≤ 601024) (hsl : slots + 24 ≤ 7293034) (hI : LI (dC, dI) cI cB cO cL eA qb qs qu qr qe qx qd qk qm ao bs s9 u tr te x rd kk mm o H) (hR : SR bs s9 u x kk mm) (hS : va_S (xA s.heap.size) s.heap H locs) (hl : lv_has ls 9 (lvL b ao qm qk i)) (hgo : LGo p l e s m below meth c b (dC, dI) cI cB cO cL eA qb qs qu qr qe qx qd qk qm ao i (cells + 4) (slots + 24)) : W p l e room_1 s m #[Value.ref b] below meth c H locs cells slots (lw_Z below #[Value.ref b] s) (F0 m 1112 ls []) := by
  obtain ⟨hfl, ⟨hx, hb, hr, hml, hown, hts, hlocks⟩, hK, hF, hC, hX, hbl, hL, hG⟩ := hLS
  obtain ⟨hb9, hs9, hu9, hr9, he9, hx9, hd9, hk9, hm9, ho9⟩ := hI
  have hA : ∀ q : Nat, s.heap.size ≤ q → xA s.heap.size q := fun q h => h
  have hIm : gD (fun _ => True) (mAd qm) := gC_T hG [8] rfl rfl
  obtain ⟨c1, r1, tr1, e1, kC, kM, hR, ⟨h3, h4⟩, -⟩ := arrival_op hR tr (xs (nI i + 1).toNatClampNeg) (xs (nI i + 2).toNatClampNeg) (xs (nI i + 3).toNatClampNeg) (xs (nI i + 4).toNatClampNeg) (xs (nI i + 5).toNatClampNeg)
  have hc9 := cod_arrival (P := fun z => z = 0 ∨ z = 1 ∨ z = 2) tr bs kk (xs (nI i + 1).toNatClampNeg) (xs (nI i + 2).toNatClampNeg) (xs (nI i + 3).toNatClampNeg) (xs (nI i + 4).toNatClampNeg) (xs (nI i + 5).toNatClampNeg) (by decide) (by decide) (by decide)
  have hmp := cod_arrival (P := fun z => rcN 1 z = mpB z) tr bs kk (xs (nI i + 1).toNatClampNeg) (xs (nI i + 2).toNatClampNeg) (xs (nI i + 3).toNatClampNeg) (xs (nI i + 4).toNatClampNeg) (xs (nI i + 5).toNatClampNeg) (by decide) (by decide) (by decide)
  rw [e1] at hmp
  have hmp : rcN 1 c1 = mpB c1 := hmp
  have hcl0 : cells + 4 + 0 ≤ 601024 := hcl
  have hsl0 : slots + 24 + 0 ≤ 7293034 := hsl
  refine lv_aload_n hx hb dL_law_1112 rfl (lv_at hl 3 rfl) ?_
  refine lv_aload_n hx hb dL_law_1113 rfl (lv_at hl 4 rfl) ?_
  refine lv_iload hx hb dL_law_1114 (lv_at hl 0 rfl) ?_
  refine lv_iconst (v := 1) hx hb dL_law_1116 (by decide) ?_
  refine lv_iadd hx hb dL_law_1117 ?_
  refine va_sld hx hb hX hbl (Nat.not_le.mpr hbl) hS (w_in (k := 1) hi hL (by omega)) dL_law_1118 ?_
  refine lv_aload_n hx hb dL_law_1119 rfl (lv_at hl 4 rfl) ?_
  refine lv_iload hx hb dL_law_1120 (lv_at hl 0 rfl) ?_
  refine lv_iconst (v := 2) hx hb dL_law_1122 (by decide) ?_
  refine lv_iadd hx hb dL_law_1123 ?_
  refine va_sld hx hb hX hbl (Nat.not_le.mpr hbl) hS (w_in (k := 2) hi hL (by omega)) dL_law_1124 ?_
  refine lv_aload_n hx hb dL_law_1125 rfl (lv_at hl 4 rfl) ?_
  refine lv_iload hx hb dL_law_1126 (lv_at hl 0 rfl) ?_
  refine lv_iconst (v := 3) hx hb dL_law_1128 (by decide) ?_
  refine lv_iadd hx hb dL_law_1129 ?_
  refine va_sld hx hb hX hbl (Nat.not_le.mpr hbl) hS (w_in (k := 3) hi hL (by omega)) dL_law_1130 ?_
  refine lv_aload_n hx hb dL_law_1131 rfl (lv_at hl 4 rfl) ?_
  refine lv_iload hx hb dL_law_1132 (lv_at hl 0 rfl) ?_
  refine lv_iconst (v := 4) hx hb dL_law_1134 (by decide) ?_
  refine lv_iadd hx hb dL_law_1135 ?_
  refine va_sld hx hb hX hbl (Nat.not_le.mpr hbl) hS (w_in (k := 4) hi hL (by omega)) dL_law_1136 ?_
  refine lv_aload_n hx hb dL_law_1137 rfl (lv_at hl 4 rfl) ?_
  refine lv_iload hx hb dL_law_1138 (lv_at hl 0 rfl) ?_
  refine lv_iconst (v := 5) hx hb dL_law_1140 (by decide) ?_
  refine lv_iadd hx hb dL_law_1141 ?_
  refine va_sld hx hb hX hbl (Nat.not_le.mpr hbl) hS (w_in (k := 5) hi hL (by omega)) dL_law_1142 ?_
  refine lv_aload_n hx hb dL_law_1143 rfl (lv_at hl 1 rfl) ?_
  refine i_call (Wd := fun v9 : (TS × BS × Int32) × (Nat → Int64) => ((fun z9 : TS × BS × Int32 => aw qr cI z9.1 ++ bw qb cI z9.2.1 ++ kw qk qb qr qe qs qu qx qd cI z9.2.2)) v9.1 ++ lo cL ao v9.2) (w0 := aw qr cI tr ++ bw qb cI bs ++ kw qk qb qr qe qs qu qx qd cI kk ++ lo cL ao o) (wo := sw qs cI s9 ++ uw qu cI cB u ++ ew qe cI te ++ xw qx cI x ++ dw qd cI cO eA rd ++ mw qm cI mm) (vx_runSW (mc := 4) (ms := 24) (As := [.ref (qk 0), .int (xs (nI i + 1).toNatClampNeg), .int (xs (nI i + 2).toNatClampNeg), .int (xs (nI i + 3).toNatClampNeg), .int (xs (nI i + 4).toNatClampNeg), .int (xs (nI i + 5).toNatClampNeg), .ref ao]) (rest := []) ⟨hx, hb, hml, hown, hts⟩ (mL_arrival l hfl dC dI cI cB cO cL s.heap.size sT eA qr qb qk qe qs qu qx qd tr bs kk (xs (nI i + 1).toNatClampNeg) (xs (nI i + 2).toNatClampNeg) (xs (nI i + 3).toNatClampNeg) (xs (nI i + 4).toNatClampNeg) (xs (nI i + 5).toNatClampNeg) ao o H.size hS.1 (gC_T hG [3, 0, 7, 9] rfl rfl) (gC_N hG [3, 0, 7, 9] rfl rfl) kC hc9) (vx_cwSW 7 hts gW_L_arrival rfl rfl rfl (by decide +kernel) ⟨Nat.le_of_ble_eq_true rfl, Nat.le_of_ble_eq_true rfl⟩) ⟨lP_blind, lP_ok (A := xA s.heap.size) (va_P.app (va_P.app (va_P.app hr9 hb9) hk9) ho9) hK hF hC hS (fun q h => h)⟩ rfl rfl hl.1 rfl (lv_room (Nat.le_of_ble_eq_true rfl)) dL_law_1144 ⟨hcl, hsl⟩) (va_P.app (va_P.app (va_P.app (va_P.app (va_P.app hs9 hu9) he9) hx9) hd9) hm9) (gC_T hG [3, 0, 7, 9, 1, 2, 4, 5, 6, 8] rfl rfl) (fun q h => mem_vA h) (fun q h => mem_vA h) (gC_N hG [3, 0, 7, 9] rfl rfl) hA hS (fun r9 v9 H locs hp hP hO hS => ?_)
  rw [e1, lF_eq] at hp
  obtain ⟨rfl, rfl⟩ := Prod.mk.inj hp
  have hm9 := va_P_suf hO
  have t429 := va_P_pre hO
  have hd9 := va_P_suf t429
  have t449 := va_P_pre t429
  have hx9 := va_P_suf t449
  have t469 := va_P_pre t449
  have he9 := va_P_suf t469
  have t489 := va_P_pre t469
  have hu9 := va_P_suf t489
  have t509 := va_P_pre t489
  have hs9 := t509
  have hP : va_P (dC, dI) vwCl (aw qr cI tr1 ++ bw qb cI bs ++ kw qk qb qr qe qs qu qx qd cI kk ++ lo cL ao (oN c1 r1 o)) H := hP
  have ho9 := va_P_suf hP
  have t549 := va_P_pre hP
  have hk9 := va_P_suf t549
  have t569 := va_P_pre t549
  have hb9 := va_P_suf t569
  have t589 := va_P_pre t569
  have hr9 := t589
  refine lv_istore (lv' := [(5, .int (rcN 1 c1)), (4, .int (nI i)), (3, .ref ao), (2, .ref (qm 0)), (1, .ref (qk 0)), (0, .ref b)]) hx hb dL_law_1147 hl (by decide) rfl (fun ls hl => ?_)
  refine lv_aload_n hx hb dL_law_1149 rfl (lv_at hl 3 rfl) ?_
  refine lv_aload_n hx hb dL_law_1150 rfl (lv_at hl 5 rfl) ?_
  refine lv_iload hx hb dL_law_1151 (lv_at hl 1 rfl) ?_
  refine lv_iconst (v := 1) hx hb dL_law_1153 (by decide) ?_
  refine lv_iadd hx hb dL_law_1154 ?_
  refine va_sld hx hb hX hbl (Nat.not_le.mpr hbl) hS (w_in (k := 1) hi hL (by omega)) dL_law_1155 ?_
  refine lv_aload_n hx hb dL_law_1156 rfl (lv_at hl 5 rfl) ?_
  refine lv_iload hx hb dL_law_1157 (lv_at hl 1 rfl) ?_
  refine lv_iconst (v := 2) hx hb dL_law_1159 (by decide) ?_
  refine lv_iadd hx hb dL_law_1160 ?_
  refine va_sld hx hb hX hbl (Nat.not_le.mpr hbl) hS (w_in (k := 2) hi hL (by omega)) dL_law_1161 ?_
  refine lv_aload_n hx hb dL_law_1162 rfl (lv_at hl 5 rfl) ?_
  refine lv_iload hx hb dL_law_1163 (lv_at hl 1 rfl) ?_
  refine lv_iconst (v := 3) hx hb dL_law_1165 (by decide) ?_
  refine lv_iadd hx hb dL_law_1166 ?_
  refine va_sld hx hb hX hbl (Nat.not_le.mpr hbl) hS (w_in (k := 3) hi hL (by omega)) dL_law_1167 ?_
  refine lv_aload_n hx hb dL_law_1168 rfl (lv_at hl 5 rfl) ?_
  refine lv_iload hx hb dL_law_1169 (lv_at hl 1 rfl) ?_
  refine lv_iconst (v := 4) hx hb dL_law_1171 (by decide) ?_
  refine lv_iadd hx hb dL_law_1172 ?_
  refine va_sld hx hb hX hbl (Nat.not_le.mpr hbl) hS (w_in (k := 4) hi hL (by omega)) dL_law_1173 ?_
  refine lv_aload_n hx hb dL_law_1174 rfl (lv_at hl 5 rfl) ?_
  refine lv_iload hx hb dL_law_1175 (lv_at hl 1 rfl) ?_
  refine lv_iconst (v := 5) hx hb dL_law_1177 (by decide) ?_
  refine lv_iadd hx hb dL_law_1178 ?_
  refine va_sld hx hb hX hbl (Nat.not_le.mpr hbl) hS (w_in (k := 5) hi hL (by omega)) dL_law_1179 ?_
  refine i_call (Wd := fun m9 => mw qm cI m9) (w0 := mw qm cI mm) (wo := bw qb cI bs ++ sw qs cI s9 ++ uw qu cI cB u ++ aw qr cI tr1 ++ ew qe cI te ++ xw qx cI x ++ dw qd cI cO eA rd ++ kw qk qb qr qe qs qu qx qd cI kk ++ lo cL ao (oN c1 r1 o)) (va_runV (mc := 0) (ms := 0) (As := [.int (xs (nI i + 1).toNatClampNeg), .int (xs (nI i + 2).toNatClampNeg), .int (xs (nI i + 3).toNatClampNeg), .int (xs (nI i + 4).toNatClampNeg), .int (xs (nI i + 5).toNatClampNeg)]) (rest := []) ⟨hx, hb, hml, hown, hts⟩ (mX12_arrival l dC dI cI cB cO cL qm mm (xs (nI i + 1).toNatClampNeg) (xs (nI i + 2).toNatClampNeg) (xs (nI i + 3).toNatClampNeg) (xs (nI i + 4).toNatClampNeg) (xs (nI i + 5).toNatClampNeg) hIm kM) (cwV 5 hts gW_X12_arrival rfl rfl rfl (by decide +kernel) ⟨Nat.le_of_ble_eq_true rfl, Nat.le_of_ble_eq_true rfl⟩) ⟨gP_blind, va_recv hK hm9 (ci := 9) (q0 := 0) rfl rfl, gP_ok hm9 hK⟩ rfl rfl hl.1 rfl (lv_room (Nat.le_of_ble_eq_true rfl)) dL_law_1180 ⟨hcl0, hsl0⟩) (va_P.app (va_P.app (va_P.app (va_P.app (va_P.app (va_P.app (va_P.app (va_P.app hb9 hs9) hu9) hr9) he9) hx9) hd9) hk9) ho9) (gC_T hG [8, 0, 1, 2, 3, 4, 5, 6, 7, 9] rfl rfl) (fun q h => Or.inl (mem_wA h)) (fun q h => Or.inl (mem_wA h)) (gC_N hG [8] rfl rfl) hA hS (fun r2 m2 H locs hp2 hm9 hO hS => ?_)
  have hp2 : (r2, m2) = pX12_arrival mm (xs (nI i + 1).toNatClampNeg) (xs (nI i + 2).toNatClampNeg) (xs (nI i + 3).toNatClampNeg) (xs (nI i + 4).toNatClampNeg) (xs (nI i + 5).toNatClampNeg) := hp2
  have ho9 := va_P_suf hO
  have t909 := va_P_pre hO
  have hk9 := va_P_suf t909
  have t929 := va_P_pre t909
  have hd9 := va_P_suf t929
  have t949 := va_P_pre t929
  have hx9 := va_P_suf t949
  have t969 := va_P_pre t949
  have he9 := va_P_suf t969
  have t989 := va_P_pre t969
  have hr9 := va_P_suf t989
  have t1009 := va_P_pre t989
  have hu9 := va_P_suf t1009
  have t1029 := va_P_pre t1009
  have hs9 := va_P_suf t1029
  have t1049 := va_P_pre t1029
  have hb9 := t1049
  have e2 : r2 = (pX12_arrival mm (xs (nI i + 1).toNatClampNeg) (xs (nI i + 2).toNatClampNeg) (xs (nI i + 3).toNatClampNeg) (xs (nI i + 4).toNatClampNeg) (xs (nI i + 5).toNatClampNeg)).1 := by rw [← hp2]
  have e3 : m2 = (pX12_arrival mm (xs (nI i + 1).toNatClampNeg) (xs (nI i + 2).toNatClampNeg) (xs (nI i + 3).toNatClampNeg) (xs (nI i + 4).toNatClampNeg) (xs (nI i + 5).toNatClampNeg)).2 := by rw [← hp2]
  rw [← e3] at hR h3
  rw [← e2] at h4
  refine lv_istore (lv' := [(6, .int r2), (5, .int (rcN 1 c1)), (4, .int (nI i)), (3, .ref ao), (2, .ref (qm 0)), (1, .ref (qk 0)), (0, .ref b)]) hx hb dL_law_1183 hl (by decide) rfl (fun ls hl => ?_)
  refine lv_aload_n hx hb dL_law_1185 rfl (lv_at hl 4 rfl) ?_
  refine gro_i (va_runV (mc := 0) (ms := 0) (As := []) (rest := []) ⟨hx, hb, hml, hown, hts⟩ (mX12_thrown l dC dI cI cB cO cL qm m2) (cwV 0 hts gW_X12_thrown rfl rfl rfl (by decide +kernel) ⟨Nat.le_of_ble_eq_true rfl, Nat.le_of_ble_eq_true rfl⟩) ⟨gP_blind, va_recv hK hm9 (ci := 9) (q0 := 0) rfl rfl, gP_ok hm9 hK⟩ rfl rfl hl.1 rfl (lv_room (Nat.le_of_ble_eq_true rfl)) dL_law_1186 ⟨hcl0, hsl0⟩) ?_
  refine lv_iload hx hb dL_law_1189 (lv_at hl 1 rfl) ?_
  refine lv_icmp_eq (tgt := 1196) hx hb dL_law_1191 (by decide) (fun _ => ?_) (fun h9 => absurd (show pX12_thrown m2 = rcN 1 c1 from h3.trans hmp.symm) h9)
  refine lv_iload hx hb dL_law_1196 (lv_at hl 1 rfl) ?_
  refine lv_if_ne (tgt := 1213) hx hb dL_law_1198 (by decide) (fun _ => ?_) (fun h9 => ?_)
  · refine lv_goto (tgt := 1972) hx hb dL_law_1213 (by decide) ?_
    exact hgo bs s9 u tr1 te x rd kk m2 ((oN c1 r1 o)) _ _ _ ⟨hb9, hs9, hu9, hr9, he9, hx9, hd9, hk9, hm9, ho9⟩ hR hS (lv_sub hl [2, 3, 4, 5, 6] rfl)
  · refine lv_aload_n hx hb dL_law_1201 rfl (lv_at hl 3 rfl) ?_
    refine lv_iconst (v := 0) hx hb dL_law_1202 (by decide) ?_
    refine va_lald (D := (dC, dI)) (tys := tYS cI cB cO cL) hx hb hK ho9 0 3 rfl rfl (vp_in_n (i := 0) (by omega) (by omega)) dL_law_1203 ?_
    refine lv_iload hx hb dL_law_1204 (lv_at hl 0 rfl) ?_
    refine lv_i2l hx hb dL_law_1206 rfl ?_
    refine W.lcmp hx hb dL_law_1207 ?_
    refine lv_if_eq (tgt := 1213) hx hb dL_law_1208 (by decide) (fun _ => ?_) (fun h8 => absurd ((lg_cmp_eq _ _).mpr ?_) h8)
    · refine lv_goto (tgt := 1972) hx hb dL_law_1213 (by decide) ?_
      exact hgo bs s9 u tr1 te x rd kk m2 ((oN c1 r1 o)) _ _ _ ⟨hb9, hs9, hu9, hr9, he9, hx9, hd9, hk9, hm9, ho9⟩ hR hS (lv_sub hl [2, 3, 4, 5, 6] rfl)
    · have h7 := rcN_0 h9
      show oN c1 r1 o 0 = r2.toInt64
      rw [oN_0 h7, h4 h7]
set_option maxHeartbeats 4000000 in
set_option maxRecDepth 100000 in
theorem w_delay (p : Program) (l : Launch) (e : Env) (s : State) (m : MethodId) (below : List Frame) (meth : Method) (c : Code) (b L : Nat) (xs : Nat → Int32) (dC : Nat → ClassId) (dI : Nat → Nat → Nat) (cI cB cO cL : ClassId) (sT eA qb qs qu qr qe qx qd qk qm : Nat → Nat) (ao : Nat) (hLS : LStart p l s m meth c b L xs (dC, dI) cI cB cO cL sT eA qb qs qu qr qe qx qd qk qm ao) (i : Nat) (hi : i + 6 ≤ L) (bs : BS) (s9 : SS) (u : US) (tr te x : TS) (rd : RS) (kk : Int32) (mm : MS) (o : Nat → Int64) (H : Heap) (locs : List Loc) (ls : Array Slot) (cells slots : Nat) (hcl : cells + 4 ≤ 601024) (hsl : slots + 24 ≤ 7293034) (hI : LI (dC, dI) cI cB cO cL eA qb qs qu qr qe qx qd qk qm ao bs s9 u tr te x rd kk mm o H) (hR : SR bs s9 u x kk mm) (hS : va_S (xA s.heap.size) s.heap H locs) (hl : lv_has ls 9 (lvL b ao qm qk i)) (hgo : LGo p l e s m below meth c b (dC, dI) cI cB cO cL eA qb qs qu qr qe qx qd qk qm ao i (cells + 4) (slots + 24)) : W p l e room_1 s m #[Value.ref b] below meth c H locs cells slots (lw_Z below #[Value.ref b] s) (F0 m 1216 ls []) := by
  obtain ⟨hfl, ⟨hx, hb, hr, hml, hown, hts, hlocks⟩, hK, hF, hC, hX, hbl, hL, hG⟩ := hLS
  obtain ⟨hb9, hs9, hu9, hr9, he9, hx9, hd9, hk9, hm9, ho9⟩ := hI
  have hA : ∀ q : Nat, s.heap.size ≤ q → xA s.heap.size q := fun q h => h
  have hIm : gD (fun _ => True) (mAd qm) := gC_T hG [8] rfl rfl
  obtain ⟨c1, r1, e1, kC, kM, hR, ⟨h3, h4⟩, -⟩ := delay_op hR (xs (nI i + 1).toNatClampNeg) (xs (nI i + 2).toNatClampNeg)
  have hc9 := cod_delay (P := fun z => z = 0 ∨ z = 1 ∨ z = 2) bs kk (xs (nI i + 1).toNatClampNeg) (xs (nI i + 2).toNatClampNeg) (by decide) (by decide) (by decide)
  have hmp := cod_delay (P := fun z => rcN 1 z = mpB z) bs kk (xs (nI i + 1).toNatClampNeg) (xs (nI i + 2).toNatClampNeg) (by decide) (by decide) (by decide)
  rw [e1] at hmp
  have hmp : rcN 1 c1 = mpB c1 := hmp
  have hcl0 : cells + 4 + 0 ≤ 601024 := hcl
  have hsl0 : slots + 24 + 0 ≤ 7293034 := hsl
  refine lv_aload_n hx hb dL_law_1216 rfl (lv_at hl 3 rfl) ?_
  refine lv_aload_n hx hb dL_law_1217 rfl (lv_at hl 4 rfl) ?_
  refine lv_iload hx hb dL_law_1218 (lv_at hl 0 rfl) ?_
  refine lv_iconst (v := 1) hx hb dL_law_1220 (by decide) ?_
  refine lv_iadd hx hb dL_law_1221 ?_
  refine va_sld hx hb hX hbl (Nat.not_le.mpr hbl) hS (w_in (k := 1) hi hL (by omega)) dL_law_1222 ?_
  refine lv_aload_n hx hb dL_law_1223 rfl (lv_at hl 4 rfl) ?_
  refine lv_iload hx hb dL_law_1224 (lv_at hl 0 rfl) ?_
  refine lv_iconst (v := 2) hx hb dL_law_1226 (by decide) ?_
  refine lv_iadd hx hb dL_law_1227 ?_
  refine va_sld hx hb hX hbl (Nat.not_le.mpr hbl) hS (w_in (k := 2) hi hL (by omega)) dL_law_1228 ?_
  refine lv_aload_n hx hb dL_law_1229 rfl (lv_at hl 1 rfl) ?_
  refine i_call (Wd := fun v9 : (BS × Int32) × (Nat → Int64) => ((fun z9 : BS × Int32 => bw qb cI z9.1 ++ kw qk qb qr qe qs qu qx qd cI z9.2)) v9.1 ++ lo cL ao v9.2) (w0 := bw qb cI bs ++ kw qk qb qr qe qs qu qx qd cI kk ++ lo cL ao o) (wo := sw qs cI s9 ++ uw qu cI cB u ++ aw qr cI tr ++ ew qe cI te ++ xw qx cI x ++ dw qd cI cO eA rd ++ mw qm cI mm) (vx_runSW (mc := 4) (ms := 24) (As := [.ref (qk 0), .int (xs (nI i + 1).toNatClampNeg), .int (xs (nI i + 2).toNatClampNeg), .ref ao]) (rest := []) ⟨hx, hb, hml, hown, hts⟩ (mL_delay l hfl dC dI cI cB cO cL s.heap.size sT eA qb qk qr qe qs qu qx qd bs kk (xs (nI i + 1).toNatClampNeg) (xs (nI i + 2).toNatClampNeg) ao o H.size hS.1 (gC_T hG [0, 7, 9] rfl rfl) (gC_N hG [0, 7, 9] rfl rfl) kC hc9) (vx_cwSW 4 hts gW_L_delay rfl rfl rfl (by decide +kernel) ⟨Nat.le_of_ble_eq_true rfl, Nat.le_of_ble_eq_true rfl⟩) ⟨lP_blind, lP_ok (A := xA s.heap.size) (va_P.app (va_P.app hb9 hk9) ho9) hK hF hC hS (fun q h => h)⟩ rfl rfl hl.1 rfl (lv_room (Nat.le_of_ble_eq_true rfl)) dL_law_1230 ⟨hcl, hsl⟩) (va_P.app (va_P.app (va_P.app (va_P.app (va_P.app (va_P.app hs9 hu9) hr9) he9) hx9) hd9) hm9) (gC_T hG [0, 7, 9, 1, 2, 3, 4, 5, 6, 8] rfl rfl) (fun q h => mem_vA h) (fun q h => mem_vA h) (gC_N hG [0, 7, 9] rfl rfl) hA hS (fun r9 v9 H locs hp hP hO hS => ?_)
  rw [e1, lF_eq] at hp
  obtain ⟨rfl, rfl⟩ := Prod.mk.inj hp
  have hm9 := va_P_suf hO
  have t279 := va_P_pre hO
  have hd9 := va_P_suf t279
  have t299 := va_P_pre t279
  have hx9 := va_P_suf t299
  have t319 := va_P_pre t299
  have he9 := va_P_suf t319
  have t339 := va_P_pre t319
  have hr9 := va_P_suf t339
  have t359 := va_P_pre t339
  have hu9 := va_P_suf t359
  have t379 := va_P_pre t359
  have hs9 := t379
  have hP : va_P (dC, dI) vwCl (bw qb cI bs ++ kw qk qb qr qe qs qu qx qd cI kk ++ lo cL ao (oN c1 r1 o)) H := hP
  have ho9 := va_P_suf hP
  have t419 := va_P_pre hP
  have hk9 := va_P_suf t419
  have t439 := va_P_pre t419
  have hb9 := t439
  refine lv_istore (lv' := [(5, .int (rcN 1 c1)), (4, .int (nI i)), (3, .ref ao), (2, .ref (qm 0)), (1, .ref (qk 0)), (0, .ref b)]) hx hb dL_law_1233 hl (by decide) rfl (fun ls hl => ?_)
  refine lv_aload_n hx hb dL_law_1235 rfl (lv_at hl 3 rfl) ?_
  refine lv_aload_n hx hb dL_law_1236 rfl (lv_at hl 5 rfl) ?_
  refine lv_iload hx hb dL_law_1237 (lv_at hl 1 rfl) ?_
  refine lv_iconst (v := 1) hx hb dL_law_1239 (by decide) ?_
  refine lv_iadd hx hb dL_law_1240 ?_
  refine va_sld hx hb hX hbl (Nat.not_le.mpr hbl) hS (w_in (k := 1) hi hL (by omega)) dL_law_1241 ?_
  refine lv_aload_n hx hb dL_law_1242 rfl (lv_at hl 5 rfl) ?_
  refine lv_iload hx hb dL_law_1243 (lv_at hl 1 rfl) ?_
  refine lv_iconst (v := 2) hx hb dL_law_1245 (by decide) ?_
  refine lv_iadd hx hb dL_law_1246 ?_
  refine va_sld hx hb hX hbl (Nat.not_le.mpr hbl) hS (w_in (k := 2) hi hL (by omega)) dL_law_1247 ?_
  refine i_call (Wd := fun m9 => mw qm cI m9) (w0 := mw qm cI mm) (wo := bw qb cI bs ++ sw qs cI s9 ++ uw qu cI cB u ++ aw qr cI tr ++ ew qe cI te ++ xw qx cI x ++ dw qd cI cO eA rd ++ kw qk qb qr qe qs qu qx qd cI kk ++ lo cL ao (oN c1 r1 o)) (va_runV (mc := 0) (ms := 0) (As := [.int (xs (nI i + 1).toNatClampNeg), .int (xs (nI i + 2).toNatClampNeg)]) (rest := []) ⟨hx, hb, hml, hown, hts⟩ (mX12_delay l dC dI cI cB cO cL qm mm (xs (nI i + 1).toNatClampNeg) (xs (nI i + 2).toNatClampNeg) hIm kM) (cwV 2 hts gW_X12_delay rfl rfl rfl (by decide +kernel) ⟨Nat.le_of_ble_eq_true rfl, Nat.le_of_ble_eq_true rfl⟩) ⟨gP_blind, va_recv hK hm9 (ci := 9) (q0 := 0) rfl rfl, gP_ok hm9 hK⟩ rfl rfl hl.1 rfl (lv_room (Nat.le_of_ble_eq_true rfl)) dL_law_1248 ⟨hcl0, hsl0⟩) (va_P.app (va_P.app (va_P.app (va_P.app (va_P.app (va_P.app (va_P.app (va_P.app hb9 hs9) hu9) hr9) he9) hx9) hd9) hk9) ho9) (gC_T hG [8, 0, 1, 2, 3, 4, 5, 6, 7, 9] rfl rfl) (fun q h => Or.inl (mem_wA h)) (fun q h => Or.inl (mem_wA h)) (gC_N hG [8] rfl rfl) hA hS (fun r2 m2 H locs hp2 hm9 hO hS => ?_)
  have hp2 : (r2, m2) = pX12_delay mm (xs (nI i + 1).toNatClampNeg) (xs (nI i + 2).toNatClampNeg) := hp2
  have ho9 := va_P_suf hO
  have t609 := va_P_pre hO
  have hk9 := va_P_suf t609
  have t629 := va_P_pre t609
  have hd9 := va_P_suf t629
  have t649 := va_P_pre t629
  have hx9 := va_P_suf t649
  have t669 := va_P_pre t649
  have he9 := va_P_suf t669
  have t689 := va_P_pre t669
  have hr9 := va_P_suf t689
  have t709 := va_P_pre t689
  have hu9 := va_P_suf t709
  have t729 := va_P_pre t709
  have hs9 := va_P_suf t729
  have t749 := va_P_pre t729
  have hb9 := t749
  have e2 : r2 = (pX12_delay mm (xs (nI i + 1).toNatClampNeg) (xs (nI i + 2).toNatClampNeg)).1 := by rw [← hp2]
  have e3 : m2 = (pX12_delay mm (xs (nI i + 1).toNatClampNeg) (xs (nI i + 2).toNatClampNeg)).2 := by rw [← hp2]
  rw [← e3] at hR h3
  rw [← e2] at h4
  refine lv_istore (lv' := [(6, .int r2), (5, .int (rcN 1 c1)), (4, .int (nI i)), (3, .ref ao), (2, .ref (qm 0)), (1, .ref (qk 0)), (0, .ref b)]) hx hb dL_law_1251 hl (by decide) rfl (fun ls hl => ?_)
  refine lv_aload_n hx hb dL_law_1253 rfl (lv_at hl 4 rfl) ?_
  refine gro_i (va_runV (mc := 0) (ms := 0) (As := []) (rest := []) ⟨hx, hb, hml, hown, hts⟩ (mX12_thrown l dC dI cI cB cO cL qm m2) (cwV 0 hts gW_X12_thrown rfl rfl rfl (by decide +kernel) ⟨Nat.le_of_ble_eq_true rfl, Nat.le_of_ble_eq_true rfl⟩) ⟨gP_blind, va_recv hK hm9 (ci := 9) (q0 := 0) rfl rfl, gP_ok hm9 hK⟩ rfl rfl hl.1 rfl (lv_room (Nat.le_of_ble_eq_true rfl)) dL_law_1254 ⟨hcl0, hsl0⟩) ?_
  refine lv_iload hx hb dL_law_1257 (lv_at hl 1 rfl) ?_
  refine lv_icmp_eq (tgt := 1264) hx hb dL_law_1259 (by decide) (fun _ => ?_) (fun h9 => absurd (show pX12_thrown m2 = rcN 1 c1 from h3.trans hmp.symm) h9)
  refine lv_iload hx hb dL_law_1264 (lv_at hl 1 rfl) ?_
  refine lv_if_ne (tgt := 1281) hx hb dL_law_1266 (by decide) (fun _ => ?_) (fun h9 => ?_)
  · refine lv_goto (tgt := 1972) hx hb dL_law_1281 (by decide) ?_
    exact hgo bs s9 u tr te x rd kk m2 ((oN c1 r1 o)) _ _ _ ⟨hb9, hs9, hu9, hr9, he9, hx9, hd9, hk9, hm9, ho9⟩ hR hS (lv_sub hl [2, 3, 4, 5, 6] rfl)
  · refine lv_aload_n hx hb dL_law_1269 rfl (lv_at hl 3 rfl) ?_
    refine lv_iconst (v := 0) hx hb dL_law_1270 (by decide) ?_
    refine va_lald (D := (dC, dI)) (tys := tYS cI cB cO cL) hx hb hK ho9 0 3 rfl rfl (vp_in_n (i := 0) (by omega) (by omega)) dL_law_1271 ?_
    refine lv_iload hx hb dL_law_1272 (lv_at hl 0 rfl) ?_
    refine lv_i2l hx hb dL_law_1274 rfl ?_
    refine W.lcmp hx hb dL_law_1275 ?_
    refine lv_if_eq (tgt := 1281) hx hb dL_law_1276 (by decide) (fun _ => ?_) (fun h8 => absurd ((lg_cmp_eq _ _).mpr ?_) h8)
    · refine lv_goto (tgt := 1972) hx hb dL_law_1281 (by decide) ?_
      exact hgo bs s9 u tr te x rd kk m2 ((oN c1 r1 o)) _ _ _ ⟨hb9, hs9, hu9, hr9, he9, hx9, hd9, hk9, hm9, ho9⟩ hR hS (lv_sub hl [2, 3, 4, 5, 6] rfl)
    · have h7 := rcN_0 h9
      show oN c1 r1 o 0 = r2.toInt64
      rw [oN_0 h7, h4 h7]
set_option maxHeartbeats 4000000 in
set_option maxRecDepth 100000 in
theorem w_expected (p : Program) (l : Launch) (e : Env) (s : State) (m : MethodId) (below : List Frame) (meth : Method) (c : Code) (b L : Nat) (xs : Nat → Int32) (dC : Nat → ClassId) (dI : Nat → Nat → Nat) (cI cB cO cL : ClassId) (sT eA qb qs qu qr qe qx qd qk qm : Nat → Nat) (ao : Nat) (hLS : LStart p l s m meth c b L xs (dC, dI) cI cB cO cL sT eA qb qs qu qr qe qx qd qk qm ao) (i : Nat) (hi : i + 6 ≤ L) (bs : BS) (s9 : SS) (u : US) (tr te x : TS) (rd : RS) (kk : Int32) (mm : MS) (o : Nat → Int64) (H : Heap) (locs : List Loc) (ls : Array Slot) (cells slots : Nat) (hcl : cells + 4 ≤ 601024) (hsl : slots + 24 ≤ 7293034) (hI : LI (dC, dI) cI cB cO cL eA qb qs qu qr qe qx qd qk qm ao bs s9 u tr te x rd kk mm o H) (hR : SR bs s9 u x kk mm) (hS : va_S (xA s.heap.size) s.heap H locs) (hl : lv_has ls 9 (lvL b ao qm qk i)) (hgo : LGo p l e s m below meth c b (dC, dI) cI cB cO cL eA qb qs qu qr qe qx qd qk qm ao i (cells + 4) (slots + 24)) : W p l e room_1 s m #[Value.ref b] below meth c H locs cells slots (lw_Z below #[Value.ref b] s) (F0 m 1284 ls []) := by
  obtain ⟨hfl, ⟨hx, hb, hr, hml, hown, hts, hlocks⟩, hK, hF, hC, hX, hbl, hL, hG⟩ := hLS
  obtain ⟨hb9, hs9, hu9, hr9, he9, hx9, hd9, hk9, hm9, ho9⟩ := hI
  have hA : ∀ q : Nat, s.heap.size ≤ q → xA s.heap.size q := fun q h => h
  have hIm : gD (fun _ => True) (mAd qm) := gC_T hG [8] rfl rfl
  obtain ⟨c1, r1, e1, kC, kM, hR, ⟨h3, h4⟩, -⟩ := expected_op hR (xs (nI i + 1).toNatClampNeg) (xs (nI i + 2).toNatClampNeg) (xs (nI i + 3).toNatClampNeg)
  have hc9 := cod_expected (P := fun z => z = 0 ∨ z = 1 ∨ z = 2) bs kk (xs (nI i + 1).toNatClampNeg) (xs (nI i + 2).toNatClampNeg) (xs (nI i + 3).toNatClampNeg) (by decide) (by decide) (by decide)
  have hmp := cod_expected (P := fun z => rcN 1 z = mpB z) bs kk (xs (nI i + 1).toNatClampNeg) (xs (nI i + 2).toNatClampNeg) (xs (nI i + 3).toNatClampNeg) (by decide) (by decide) (by decide)
  rw [e1] at hmp
  have hmp : rcN 1 c1 = mpB c1 := hmp
  have hcl0 : cells + 4 + 0 ≤ 601024 := hcl
  have hsl0 : slots + 24 + 0 ≤ 7293034 := hsl
  refine lv_aload_n hx hb dL_law_1284 rfl (lv_at hl 3 rfl) ?_
  refine lv_aload_n hx hb dL_law_1285 rfl (lv_at hl 4 rfl) ?_
  refine lv_iload hx hb dL_law_1286 (lv_at hl 0 rfl) ?_
  refine lv_iconst (v := 1) hx hb dL_law_1288 (by decide) ?_
  refine lv_iadd hx hb dL_law_1289 ?_
  refine va_sld hx hb hX hbl (Nat.not_le.mpr hbl) hS (w_in (k := 1) hi hL (by omega)) dL_law_1290 ?_
  refine lv_aload_n hx hb dL_law_1291 rfl (lv_at hl 4 rfl) ?_
  refine lv_iload hx hb dL_law_1292 (lv_at hl 0 rfl) ?_
  refine lv_iconst (v := 2) hx hb dL_law_1294 (by decide) ?_
  refine lv_iadd hx hb dL_law_1295 ?_
  refine va_sld hx hb hX hbl (Nat.not_le.mpr hbl) hS (w_in (k := 2) hi hL (by omega)) dL_law_1296 ?_
  refine lv_aload_n hx hb dL_law_1297 rfl (lv_at hl 4 rfl) ?_
  refine lv_iload hx hb dL_law_1298 (lv_at hl 0 rfl) ?_
  refine lv_iconst (v := 3) hx hb dL_law_1300 (by decide) ?_
  refine lv_iadd hx hb dL_law_1301 ?_
  refine va_sld hx hb hX hbl (Nat.not_le.mpr hbl) hS (w_in (k := 3) hi hL (by omega)) dL_law_1302 ?_
  refine lv_aload_n hx hb dL_law_1303 rfl (lv_at hl 1 rfl) ?_
  refine i_call (Wd := fun v9 : (BS × Int32) × (Nat → Int64) => ((fun z9 : BS × Int32 => bw qb cI z9.1 ++ kw qk qb qr qe qs qu qx qd cI z9.2)) v9.1 ++ lo cL ao v9.2) (w0 := bw qb cI bs ++ kw qk qb qr qe qs qu qx qd cI kk ++ lo cL ao o) (wo := sw qs cI s9 ++ uw qu cI cB u ++ aw qr cI tr ++ ew qe cI te ++ xw qx cI x ++ dw qd cI cO eA rd ++ mw qm cI mm) (vx_runSW (mc := 4) (ms := 24) (As := [.ref (qk 0), .int (xs (nI i + 1).toNatClampNeg), .int (xs (nI i + 2).toNatClampNeg), .int (xs (nI i + 3).toNatClampNeg), .ref ao]) (rest := []) ⟨hx, hb, hml, hown, hts⟩ (mL_expected l hfl dC dI cI cB cO cL s.heap.size sT eA qb qk qr qe qs qu qx qd bs kk (xs (nI i + 1).toNatClampNeg) (xs (nI i + 2).toNatClampNeg) (xs (nI i + 3).toNatClampNeg) ao o H.size hS.1 (gC_T hG [0, 7, 9] rfl rfl) (gC_N hG [0, 7, 9] rfl rfl) kC hc9) (vx_cwSW 5 hts gW_L_expected rfl rfl rfl (by decide +kernel) ⟨Nat.le_of_ble_eq_true rfl, Nat.le_of_ble_eq_true rfl⟩) ⟨lP_blind, lP_ok (A := xA s.heap.size) (va_P.app (va_P.app hb9 hk9) ho9) hK hF hC hS (fun q h => h)⟩ rfl rfl hl.1 rfl (lv_room (Nat.le_of_ble_eq_true rfl)) dL_law_1304 ⟨hcl, hsl⟩) (va_P.app (va_P.app (va_P.app (va_P.app (va_P.app (va_P.app hs9 hu9) hr9) he9) hx9) hd9) hm9) (gC_T hG [0, 7, 9, 1, 2, 3, 4, 5, 6, 8] rfl rfl) (fun q h => mem_vA h) (fun q h => mem_vA h) (gC_N hG [0, 7, 9] rfl rfl) hA hS (fun r9 v9 H locs hp hP hO hS => ?_)
  rw [e1, lF_eq] at hp
  obtain ⟨rfl, rfl⟩ := Prod.mk.inj hp
  have hm9 := va_P_suf hO
  have t329 := va_P_pre hO
  have hd9 := va_P_suf t329
  have t349 := va_P_pre t329
  have hx9 := va_P_suf t349
  have t369 := va_P_pre t349
  have he9 := va_P_suf t369
  have t389 := va_P_pre t369
  have hr9 := va_P_suf t389
  have t409 := va_P_pre t389
  have hu9 := va_P_suf t409
  have t429 := va_P_pre t409
  have hs9 := t429
  have hP : va_P (dC, dI) vwCl (bw qb cI bs ++ kw qk qb qr qe qs qu qx qd cI kk ++ lo cL ao (oN c1 r1 o)) H := hP
  have ho9 := va_P_suf hP
  have t469 := va_P_pre hP
  have hk9 := va_P_suf t469
  have t489 := va_P_pre t469
  have hb9 := t489
  refine lv_istore (lv' := [(5, .int (rcN 1 c1)), (4, .int (nI i)), (3, .ref ao), (2, .ref (qm 0)), (1, .ref (qk 0)), (0, .ref b)]) hx hb dL_law_1307 hl (by decide) rfl (fun ls hl => ?_)
  refine lv_aload_n hx hb dL_law_1309 rfl (lv_at hl 3 rfl) ?_
  refine lv_aload_n hx hb dL_law_1310 rfl (lv_at hl 5 rfl) ?_
  refine lv_iload hx hb dL_law_1311 (lv_at hl 1 rfl) ?_
  refine lv_iconst (v := 1) hx hb dL_law_1313 (by decide) ?_
  refine lv_iadd hx hb dL_law_1314 ?_
  refine va_sld hx hb hX hbl (Nat.not_le.mpr hbl) hS (w_in (k := 1) hi hL (by omega)) dL_law_1315 ?_
  refine lv_aload_n hx hb dL_law_1316 rfl (lv_at hl 5 rfl) ?_
  refine lv_iload hx hb dL_law_1317 (lv_at hl 1 rfl) ?_
  refine lv_iconst (v := 2) hx hb dL_law_1319 (by decide) ?_
  refine lv_iadd hx hb dL_law_1320 ?_
  refine va_sld hx hb hX hbl (Nat.not_le.mpr hbl) hS (w_in (k := 2) hi hL (by omega)) dL_law_1321 ?_
  refine lv_aload_n hx hb dL_law_1322 rfl (lv_at hl 5 rfl) ?_
  refine lv_iload hx hb dL_law_1323 (lv_at hl 1 rfl) ?_
  refine lv_iconst (v := 3) hx hb dL_law_1325 (by decide) ?_
  refine lv_iadd hx hb dL_law_1326 ?_
  refine va_sld hx hb hX hbl (Nat.not_le.mpr hbl) hS (w_in (k := 3) hi hL (by omega)) dL_law_1327 ?_
  refine i_call (Wd := fun m9 => mw qm cI m9) (w0 := mw qm cI mm) (wo := bw qb cI bs ++ sw qs cI s9 ++ uw qu cI cB u ++ aw qr cI tr ++ ew qe cI te ++ xw qx cI x ++ dw qd cI cO eA rd ++ kw qk qb qr qe qs qu qx qd cI kk ++ lo cL ao (oN c1 r1 o)) (va_runV (mc := 0) (ms := 0) (As := [.int (xs (nI i + 1).toNatClampNeg), .int (xs (nI i + 2).toNatClampNeg), .int (xs (nI i + 3).toNatClampNeg)]) (rest := []) ⟨hx, hb, hml, hown, hts⟩ (mX12_expected l dC dI cI cB cO cL qm mm (xs (nI i + 1).toNatClampNeg) (xs (nI i + 2).toNatClampNeg) (xs (nI i + 3).toNatClampNeg) hIm kM) (cwV 3 hts gW_X12_expected rfl rfl rfl (by decide +kernel) ⟨Nat.le_of_ble_eq_true rfl, Nat.le_of_ble_eq_true rfl⟩) ⟨gP_blind, va_recv hK hm9 (ci := 9) (q0 := 0) rfl rfl, gP_ok hm9 hK⟩ rfl rfl hl.1 rfl (lv_room (Nat.le_of_ble_eq_true rfl)) dL_law_1328 ⟨hcl0, hsl0⟩) (va_P.app (va_P.app (va_P.app (va_P.app (va_P.app (va_P.app (va_P.app (va_P.app hb9 hs9) hu9) hr9) he9) hx9) hd9) hk9) ho9) (gC_T hG [8, 0, 1, 2, 3, 4, 5, 6, 7, 9] rfl rfl) (fun q h => Or.inl (mem_wA h)) (fun q h => Or.inl (mem_wA h)) (gC_N hG [8] rfl rfl) hA hS (fun r2 m2 H locs hp2 hm9 hO hS => ?_)
  have hp2 : (r2, m2) = pX12_expected mm (xs (nI i + 1).toNatClampNeg) (xs (nI i + 2).toNatClampNeg) (xs (nI i + 3).toNatClampNeg) := hp2
  have ho9 := va_P_suf hO
  have t709 := va_P_pre hO
  have hk9 := va_P_suf t709
  have t729 := va_P_pre t709
  have hd9 := va_P_suf t729
  have t749 := va_P_pre t729
  have hx9 := va_P_suf t749
  have t769 := va_P_pre t749
  have he9 := va_P_suf t769
  have t789 := va_P_pre t769
  have hr9 := va_P_suf t789
  have t809 := va_P_pre t789
  have hu9 := va_P_suf t809
  have t829 := va_P_pre t809
  have hs9 := va_P_suf t829
  have t849 := va_P_pre t829
  have hb9 := t849
  have e2 : r2 = (pX12_expected mm (xs (nI i + 1).toNatClampNeg) (xs (nI i + 2).toNatClampNeg) (xs (nI i + 3).toNatClampNeg)).1 := by rw [← hp2]
  have e3 : m2 = (pX12_expected mm (xs (nI i + 1).toNatClampNeg) (xs (nI i + 2).toNatClampNeg) (xs (nI i + 3).toNatClampNeg)).2 := by rw [← hp2]
  rw [← e3] at hR h3
  rw [← e2] at h4
  refine lv_istore (lv' := [(6, .int r2), (5, .int (rcN 1 c1)), (4, .int (nI i)), (3, .ref ao), (2, .ref (qm 0)), (1, .ref (qk 0)), (0, .ref b)]) hx hb dL_law_1331 hl (by decide) rfl (fun ls hl => ?_)
  refine lv_aload_n hx hb dL_law_1333 rfl (lv_at hl 4 rfl) ?_
  refine gro_i (va_runV (mc := 0) (ms := 0) (As := []) (rest := []) ⟨hx, hb, hml, hown, hts⟩ (mX12_thrown l dC dI cI cB cO cL qm m2) (cwV 0 hts gW_X12_thrown rfl rfl rfl (by decide +kernel) ⟨Nat.le_of_ble_eq_true rfl, Nat.le_of_ble_eq_true rfl⟩) ⟨gP_blind, va_recv hK hm9 (ci := 9) (q0 := 0) rfl rfl, gP_ok hm9 hK⟩ rfl rfl hl.1 rfl (lv_room (Nat.le_of_ble_eq_true rfl)) dL_law_1334 ⟨hcl0, hsl0⟩) ?_
  refine lv_iload hx hb dL_law_1337 (lv_at hl 1 rfl) ?_
  refine lv_icmp_eq (tgt := 1344) hx hb dL_law_1339 (by decide) (fun _ => ?_) (fun h9 => absurd (show pX12_thrown m2 = rcN 1 c1 from h3.trans hmp.symm) h9)
  refine lv_iload hx hb dL_law_1344 (lv_at hl 1 rfl) ?_
  refine lv_if_ne (tgt := 1361) hx hb dL_law_1346 (by decide) (fun _ => ?_) (fun h9 => ?_)
  · refine lv_goto (tgt := 1972) hx hb dL_law_1361 (by decide) ?_
    exact hgo bs s9 u tr te x rd kk m2 ((oN c1 r1 o)) _ _ _ ⟨hb9, hs9, hu9, hr9, he9, hx9, hd9, hk9, hm9, ho9⟩ hR hS (lv_sub hl [2, 3, 4, 5, 6] rfl)
  · refine lv_aload_n hx hb dL_law_1349 rfl (lv_at hl 3 rfl) ?_
    refine lv_iconst (v := 0) hx hb dL_law_1350 (by decide) ?_
    refine va_lald (D := (dC, dI)) (tys := tYS cI cB cO cL) hx hb hK ho9 0 3 rfl rfl (vp_in_n (i := 0) (by omega) (by omega)) dL_law_1351 ?_
    refine lv_iload hx hb dL_law_1352 (lv_at hl 0 rfl) ?_
    refine lv_i2l hx hb dL_law_1354 rfl ?_
    refine W.lcmp hx hb dL_law_1355 ?_
    refine lv_if_eq (tgt := 1361) hx hb dL_law_1356 (by decide) (fun _ => ?_) (fun h8 => absurd ((lg_cmp_eq _ _).mpr ?_) h8)
    · refine lv_goto (tgt := 1972) hx hb dL_law_1361 (by decide) ?_
      exact hgo bs s9 u tr te x rd kk m2 ((oN c1 r1 o)) _ _ _ ⟨hb9, hs9, hu9, hr9, he9, hx9, hd9, hk9, hm9, ho9⟩ hR hS (lv_sub hl [2, 3, 4, 5, 6] rfl)
    · have h7 := rcN_0 h9
      show oN c1 r1 o 0 = r2.toInt64
      rw [oN_0 h7, h4 h7]
set_option maxHeartbeats 4000000 in
set_option maxRecDepth 100000 in
theorem w_votes (p : Program) (l : Launch) (e : Env) (s : State) (m : MethodId) (below : List Frame) (meth : Method) (c : Code) (b L : Nat) (xs : Nat → Int32) (dC : Nat → ClassId) (dI : Nat → Nat → Nat) (cI cB cO cL : ClassId) (sT eA qb qs qu qr qe qx qd qk qm : Nat → Nat) (ao : Nat) (hLS : LStart p l s m meth c b L xs (dC, dI) cI cB cO cL sT eA qb qs qu qr qe qx qd qk qm ao) (i : Nat) (hi : i + 6 ≤ L) (bs : BS) (s9 : SS) (u : US) (tr te x : TS) (rd : RS) (kk : Int32) (mm : MS) (o : Nat → Int64) (H : Heap) (locs : List Loc) (ls : Array Slot) (cells slots : Nat) (hcl : cells + 4 ≤ 601024) (hsl : slots + 24 ≤ 7293034) (hI : LI (dC, dI) cI cB cO cL eA qb qs qu qr qe qx qd qk qm ao bs s9 u tr te x rd kk mm o H) (hR : SR bs s9 u x kk mm) (hS : va_S (xA s.heap.size) s.heap H locs) (hl : lv_has ls 9 (lvL b ao qm qk i)) (hgo : LGo p l e s m below meth c b (dC, dI) cI cB cO cL eA qb qs qu qr qe qx qd qk qm ao i (cells + 4) (slots + 24)) : W p l e room_1 s m #[Value.ref b] below meth c H locs cells slots (lw_Z below #[Value.ref b] s) (F0 m 1364 ls []) := by
  obtain ⟨hfl, ⟨hx, hb, hr, hml, hown, hts, hlocks⟩, hK, hF, hC, hX, hbl, hL, hG⟩ := hLS
  obtain ⟨hb9, hs9, hu9, hr9, he9, hx9, hd9, hk9, hm9, ho9⟩ := hI
  have hA : ∀ q : Nat, s.heap.size ≤ q → xA s.heap.size q := fun q h => h
  have hIm : gD (fun _ => True) (mAd qm) := gC_T hG [8] rfl rfl
  obtain ⟨c1, r1, s1, e1, kC, kM, hR, ⟨h3, h4⟩, -⟩ := votes_op hR (xs (nI i + 1).toNatClampNeg)
  have hc9 := cod_votes (P := fun z => z = 0 ∨ z = 1) s9 bs kk (xs (nI i + 1).toNatClampNeg) (by decide) (by decide)
  have hmp := cod_votes (P := fun z => rcN 1 z = mpB z) s9 bs kk (xs (nI i + 1).toNatClampNeg) (by decide) (by decide)
  rw [e1] at hmp
  have hmp : rcN 1 c1 = mpB c1 := hmp
  have hcl0 : cells + 4 + 0 ≤ 601024 := hcl
  have hsl0 : slots + 24 + 0 ≤ 7293034 := hsl
  refine lv_aload_n hx hb dL_law_1364 rfl (lv_at hl 3 rfl) ?_
  refine lv_aload_n hx hb dL_law_1365 rfl (lv_at hl 4 rfl) ?_
  refine lv_iload hx hb dL_law_1366 (lv_at hl 0 rfl) ?_
  refine lv_iconst (v := 1) hx hb dL_law_1368 (by decide) ?_
  refine lv_iadd hx hb dL_law_1369 ?_
  refine va_sld hx hb hX hbl (Nat.not_le.mpr hbl) hS (w_in (k := 1) hi hL (by omega)) dL_law_1370 ?_
  refine lv_aload_n hx hb dL_law_1371 rfl (lv_at hl 1 rfl) ?_
  refine i_call (Wd := fun v9 : (SS × BS × Int32) × (Nat → Int64) => ((fun z9 : SS × BS × Int32 => sw qs cI z9.1 ++ bw qb cI z9.2.1 ++ kw qk qb qr qe qs qu qx qd cI z9.2.2)) v9.1 ++ lo cL ao v9.2) (w0 := sw qs cI s9 ++ bw qb cI bs ++ kw qk qb qr qe qs qu qx qd cI kk ++ lo cL ao o) (wo := uw qu cI cB u ++ aw qr cI tr ++ ew qe cI te ++ xw qx cI x ++ dw qd cI cO eA rd ++ mw qm cI mm) (vx_runSW (mc := 4) (ms := 24) (As := [.ref (qk 0), .int (xs (nI i + 1).toNatClampNeg), .ref ao]) (rest := []) ⟨hx, hb, hml, hown, hts⟩ (mL_votes l hfl dC dI cI cB cO cL s.heap.size sT eA qs qb qk qr qe qu qx qd s9 bs kk (xs (nI i + 1).toNatClampNeg) ao o H.size hS.1 (gC_T hG [1, 0, 7, 9] rfl rfl) (gC_N hG [1, 0, 7, 9] rfl rfl) kC hc9) (vx_cwSW 3 hts gW_L_votes rfl rfl rfl (by decide +kernel) ⟨Nat.le_of_ble_eq_true rfl, Nat.le_of_ble_eq_true rfl⟩) ⟨lP_blind, lP_ok (A := xA s.heap.size) (va_P.app (va_P.app (va_P.app hs9 hb9) hk9) ho9) hK hF hC hS (fun q h => h)⟩ rfl rfl hl.1 rfl (lv_room (Nat.le_of_ble_eq_true rfl)) dL_law_1372 ⟨hcl, hsl⟩) (va_P.app (va_P.app (va_P.app (va_P.app (va_P.app hu9 hr9) he9) hx9) hd9) hm9) (gC_T hG [1, 0, 7, 9, 2, 3, 4, 5, 6, 8] rfl rfl) (fun q h => mem_vA h) (fun q h => mem_vA h) (gC_N hG [1, 0, 7, 9] rfl rfl) hA hS (fun r9 v9 H locs hp hP hO hS => ?_)
  rw [e1, lF_eq] at hp
  obtain ⟨rfl, rfl⟩ := Prod.mk.inj hp
  have hm9 := va_P_suf hO
  have t229 := va_P_pre hO
  have hd9 := va_P_suf t229
  have t249 := va_P_pre t229
  have hx9 := va_P_suf t249
  have t269 := va_P_pre t249
  have he9 := va_P_suf t269
  have t289 := va_P_pre t269
  have hr9 := va_P_suf t289
  have t309 := va_P_pre t289
  have hu9 := t309
  have hP : va_P (dC, dI) vwCl (sw qs cI s1 ++ bw qb cI bs ++ kw qk qb qr qe qs qu qx qd cI kk ++ lo cL ao (oN c1 r1 o)) H := hP
  have ho9 := va_P_suf hP
  have t349 := va_P_pre hP
  have hk9 := va_P_suf t349
  have t369 := va_P_pre t349
  have hb9 := va_P_suf t369
  have t389 := va_P_pre t369
  have hs9 := t389
  refine lv_istore (lv' := [(5, .int (rcN 1 c1)), (4, .int (nI i)), (3, .ref ao), (2, .ref (qm 0)), (1, .ref (qk 0)), (0, .ref b)]) hx hb dL_law_1375 hl (by decide) rfl (fun ls hl => ?_)
  refine lv_aload_n hx hb dL_law_1377 rfl (lv_at hl 3 rfl) ?_
  refine lv_aload_n hx hb dL_law_1378 rfl (lv_at hl 5 rfl) ?_
  refine lv_iload hx hb dL_law_1379 (lv_at hl 1 rfl) ?_
  refine lv_iconst (v := 1) hx hb dL_law_1381 (by decide) ?_
  refine lv_iadd hx hb dL_law_1382 ?_
  refine va_sld hx hb hX hbl (Nat.not_le.mpr hbl) hS (w_in (k := 1) hi hL (by omega)) dL_law_1383 ?_
  refine i_call (Wd := fun m9 => mw qm cI m9) (w0 := mw qm cI mm) (wo := bw qb cI bs ++ sw qs cI s1 ++ uw qu cI cB u ++ aw qr cI tr ++ ew qe cI te ++ xw qx cI x ++ dw qd cI cO eA rd ++ kw qk qb qr qe qs qu qx qd cI kk ++ lo cL ao (oN c1 r1 o)) (va_runV (mc := 0) (ms := 0) (As := [.int (xs (nI i + 1).toNatClampNeg)]) (rest := []) ⟨hx, hb, hml, hown, hts⟩ (mX12_votes l dC dI cI cB cO cL qm mm (xs (nI i + 1).toNatClampNeg) hIm kM) (cwV 1 hts gW_X12_votes rfl rfl rfl (by decide +kernel) ⟨Nat.le_of_ble_eq_true rfl, Nat.le_of_ble_eq_true rfl⟩) ⟨gP_blind, va_recv hK hm9 (ci := 9) (q0 := 0) rfl rfl, gP_ok hm9 hK⟩ rfl rfl hl.1 rfl (lv_room (Nat.le_of_ble_eq_true rfl)) dL_law_1384 ⟨hcl0, hsl0⟩) (va_P.app (va_P.app (va_P.app (va_P.app (va_P.app (va_P.app (va_P.app (va_P.app hb9 hs9) hu9) hr9) he9) hx9) hd9) hk9) ho9) (gC_T hG [8, 0, 1, 2, 3, 4, 5, 6, 7, 9] rfl rfl) (fun q h => Or.inl (mem_wA h)) (fun q h => Or.inl (mem_wA h)) (gC_N hG [8] rfl rfl) hA hS (fun r2 m2 H locs hp2 hm9 hO hS => ?_)
  have hp2 : (r2, m2) = pX12_votes mm (xs (nI i + 1).toNatClampNeg) := hp2
  have ho9 := va_P_suf hO
  have t509 := va_P_pre hO
  have hk9 := va_P_suf t509
  have t529 := va_P_pre t509
  have hd9 := va_P_suf t529
  have t549 := va_P_pre t529
  have hx9 := va_P_suf t549
  have t569 := va_P_pre t549
  have he9 := va_P_suf t569
  have t589 := va_P_pre t569
  have hr9 := va_P_suf t589
  have t609 := va_P_pre t589
  have hu9 := va_P_suf t609
  have t629 := va_P_pre t609
  have hs9 := va_P_suf t629
  have t649 := va_P_pre t629
  have hb9 := t649
  have e2 : r2 = (pX12_votes mm (xs (nI i + 1).toNatClampNeg)).1 := by rw [← hp2]
  have e3 : m2 = (pX12_votes mm (xs (nI i + 1).toNatClampNeg)).2 := by rw [← hp2]
  rw [← e3] at hR h3
  rw [← e2] at h4
  refine lv_istore (lv' := [(6, .int r2), (5, .int (rcN 1 c1)), (4, .int (nI i)), (3, .ref ao), (2, .ref (qm 0)), (1, .ref (qk 0)), (0, .ref b)]) hx hb dL_law_1387 hl (by decide) rfl (fun ls hl => ?_)
  refine lv_aload_n hx hb dL_law_1389 rfl (lv_at hl 4 rfl) ?_
  refine gro_i (va_runV (mc := 0) (ms := 0) (As := []) (rest := []) ⟨hx, hb, hml, hown, hts⟩ (mX12_thrown l dC dI cI cB cO cL qm m2) (cwV 0 hts gW_X12_thrown rfl rfl rfl (by decide +kernel) ⟨Nat.le_of_ble_eq_true rfl, Nat.le_of_ble_eq_true rfl⟩) ⟨gP_blind, va_recv hK hm9 (ci := 9) (q0 := 0) rfl rfl, gP_ok hm9 hK⟩ rfl rfl hl.1 rfl (lv_room (Nat.le_of_ble_eq_true rfl)) dL_law_1390 ⟨hcl0, hsl0⟩) ?_
  refine lv_iload hx hb dL_law_1393 (lv_at hl 1 rfl) ?_
  refine lv_icmp_eq (tgt := 1400) hx hb dL_law_1395 (by decide) (fun _ => ?_) (fun h9 => absurd (show pX12_thrown m2 = rcN 1 c1 from h3.trans hmp.symm) h9)
  refine lv_iload hx hb dL_law_1400 (lv_at hl 1 rfl) ?_
  refine lv_if_ne (tgt := 1417) hx hb dL_law_1402 (by decide) (fun _ => ?_) (fun h9 => ?_)
  · refine lv_goto (tgt := 1972) hx hb dL_law_1417 (by decide) ?_
    exact hgo bs s1 u tr te x rd kk m2 ((oN c1 r1 o)) _ _ _ ⟨hb9, hs9, hu9, hr9, he9, hx9, hd9, hk9, hm9, ho9⟩ hR hS (lv_sub hl [2, 3, 4, 5, 6] rfl)
  · refine lv_aload_n hx hb dL_law_1405 rfl (lv_at hl 3 rfl) ?_
    refine lv_iconst (v := 0) hx hb dL_law_1406 (by decide) ?_
    refine va_lald (D := (dC, dI)) (tys := tYS cI cB cO cL) hx hb hK ho9 0 3 rfl rfl (vp_in_n (i := 0) (by omega) (by omega)) dL_law_1407 ?_
    refine lv_iload hx hb dL_law_1408 (lv_at hl 0 rfl) ?_
    refine lv_i2l hx hb dL_law_1410 rfl ?_
    refine W.lcmp hx hb dL_law_1411 ?_
    refine lv_if_eq (tgt := 1417) hx hb dL_law_1412 (by decide) (fun _ => ?_) (fun h8 => absurd ((lg_cmp_eq _ _).mpr ?_) h8)
    · refine lv_goto (tgt := 1972) hx hb dL_law_1417 (by decide) ?_
      exact hgo bs s1 u tr te x rd kk m2 ((oN c1 r1 o)) _ _ _ ⟨hb9, hs9, hu9, hr9, he9, hx9, hd9, hk9, hm9, ho9⟩ hR hS (lv_sub hl [2, 3, 4, 5, 6] rfl)
    · have h7 := rcN_0 h9
      show oN c1 r1 o 0 = r2.toInt64
      rw [oN_0 h7, h4 h7]
set_option maxHeartbeats 4000000 in
set_option maxRecDepth 100000 in
theorem w_error (p : Program) (l : Launch) (e : Env) (s : State) (m : MethodId) (below : List Frame) (meth : Method) (c : Code) (b L : Nat) (xs : Nat → Int32) (dC : Nat → ClassId) (dI : Nat → Nat → Nat) (cI cB cO cL : ClassId) (sT eA qb qs qu qr qe qx qd qk qm : Nat → Nat) (ao : Nat) (hLS : LStart p l s m meth c b L xs (dC, dI) cI cB cO cL sT eA qb qs qu qr qe qx qd qk qm ao) (i : Nat) (hi : i + 6 ≤ L) (bs : BS) (s9 : SS) (u : US) (tr te x : TS) (rd : RS) (kk : Int32) (mm : MS) (o : Nat → Int64) (H : Heap) (locs : List Loc) (ls : Array Slot) (cells slots : Nat) (hcl : cells + 4 ≤ 601024) (hsl : slots + 24 ≤ 7293034) (hI : LI (dC, dI) cI cB cO cL eA qb qs qu qr qe qx qd qk qm ao bs s9 u tr te x rd kk mm o H) (hR : SR bs s9 u x kk mm) (hS : va_S (xA s.heap.size) s.heap H locs) (hl : lv_has ls 9 (lvL b ao qm qk i)) (hgo : LGo p l e s m below meth c b (dC, dI) cI cB cO cL eA qb qs qu qr qe qx qd qk qm ao i (cells + 4) (slots + 24)) : W p l e room_1 s m #[Value.ref b] below meth c H locs cells slots (lw_Z below #[Value.ref b] s) (F0 m 1420 ls []) := by
  obtain ⟨hfl, ⟨hx, hb, hr, hml, hown, hts, hlocks⟩, hK, hF, hC, hX, hbl, hL, hG⟩ := hLS
  obtain ⟨hb9, hs9, hu9, hr9, he9, hx9, hd9, hk9, hm9, ho9⟩ := hI
  have hA : ∀ q : Nat, s.heap.size ≤ q → xA s.heap.size q := fun q h => h
  have hIm : gD (fun _ => True) (mAd qm) := gC_T hG [8] rfl rfl
  obtain ⟨c1, r1, s1, e1, kC, kM, hR, ⟨h3, h4⟩, -⟩ := error_op hR (xs (nI i + 1).toNatClampNeg)
  have hc9 := cod_error (P := fun z => z = 0 ∨ z = 1) s9 bs kk (xs (nI i + 1).toNatClampNeg) (by decide) (by decide)
  have hmp := cod_error (P := fun z => rcN 1 z = mpB z) s9 bs kk (xs (nI i + 1).toNatClampNeg) (by decide) (by decide)
  rw [e1] at hmp
  have hmp : rcN 1 c1 = mpB c1 := hmp
  have hcl0 : cells + 4 + 0 ≤ 601024 := hcl
  have hsl0 : slots + 24 + 0 ≤ 7293034 := hsl
  refine lv_aload_n hx hb dL_law_1420 rfl (lv_at hl 3 rfl) ?_
  refine lv_aload_n hx hb dL_law_1421 rfl (lv_at hl 4 rfl) ?_
  refine lv_iload hx hb dL_law_1422 (lv_at hl 0 rfl) ?_
  refine lv_iconst (v := 1) hx hb dL_law_1424 (by decide) ?_
  refine lv_iadd hx hb dL_law_1425 ?_
  refine va_sld hx hb hX hbl (Nat.not_le.mpr hbl) hS (w_in (k := 1) hi hL (by omega)) dL_law_1426 ?_
  refine lv_aload_n hx hb dL_law_1427 rfl (lv_at hl 1 rfl) ?_
  refine i_call (Wd := fun v9 : (SS × BS × Int32) × (Nat → Int64) => ((fun z9 : SS × BS × Int32 => sw qs cI z9.1 ++ bw qb cI z9.2.1 ++ kw qk qb qr qe qs qu qx qd cI z9.2.2)) v9.1 ++ lo cL ao v9.2) (w0 := sw qs cI s9 ++ bw qb cI bs ++ kw qk qb qr qe qs qu qx qd cI kk ++ lo cL ao o) (wo := uw qu cI cB u ++ aw qr cI tr ++ ew qe cI te ++ xw qx cI x ++ dw qd cI cO eA rd ++ mw qm cI mm) (vx_runSW (mc := 4) (ms := 24) (As := [.ref (qk 0), .int (xs (nI i + 1).toNatClampNeg), .ref ao]) (rest := []) ⟨hx, hb, hml, hown, hts⟩ (mL_error l hfl dC dI cI cB cO cL s.heap.size sT eA qs qb qk qr qe qu qx qd s9 bs kk (xs (nI i + 1).toNatClampNeg) ao o H.size hS.1 (gC_T hG [1, 0, 7, 9] rfl rfl) (gC_N hG [1, 0, 7, 9] rfl rfl) kC hc9) (vx_cwSW 3 hts gW_L_error rfl rfl rfl (by decide +kernel) ⟨Nat.le_of_ble_eq_true rfl, Nat.le_of_ble_eq_true rfl⟩) ⟨lP_blind, lP_ok (A := xA s.heap.size) (va_P.app (va_P.app (va_P.app hs9 hb9) hk9) ho9) hK hF hC hS (fun q h => h)⟩ rfl rfl hl.1 rfl (lv_room (Nat.le_of_ble_eq_true rfl)) dL_law_1428 ⟨hcl, hsl⟩) (va_P.app (va_P.app (va_P.app (va_P.app (va_P.app hu9 hr9) he9) hx9) hd9) hm9) (gC_T hG [1, 0, 7, 9, 2, 3, 4, 5, 6, 8] rfl rfl) (fun q h => mem_vA h) (fun q h => mem_vA h) (gC_N hG [1, 0, 7, 9] rfl rfl) hA hS (fun r9 v9 H locs hp hP hO hS => ?_)
  rw [e1, lF_eq] at hp
  obtain ⟨rfl, rfl⟩ := Prod.mk.inj hp
  have hm9 := va_P_suf hO
  have t229 := va_P_pre hO
  have hd9 := va_P_suf t229
  have t249 := va_P_pre t229
  have hx9 := va_P_suf t249
  have t269 := va_P_pre t249
  have he9 := va_P_suf t269
  have t289 := va_P_pre t269
  have hr9 := va_P_suf t289
  have t309 := va_P_pre t289
  have hu9 := t309
  have hP : va_P (dC, dI) vwCl (sw qs cI s1 ++ bw qb cI bs ++ kw qk qb qr qe qs qu qx qd cI kk ++ lo cL ao (oN c1 r1 o)) H := hP
  have ho9 := va_P_suf hP
  have t349 := va_P_pre hP
  have hk9 := va_P_suf t349
  have t369 := va_P_pre t349
  have hb9 := va_P_suf t369
  have t389 := va_P_pre t369
  have hs9 := t389
  refine lv_istore (lv' := [(5, .int (rcN 1 c1)), (4, .int (nI i)), (3, .ref ao), (2, .ref (qm 0)), (1, .ref (qk 0)), (0, .ref b)]) hx hb dL_law_1431 hl (by decide) rfl (fun ls hl => ?_)
  refine lv_aload_n hx hb dL_law_1433 rfl (lv_at hl 3 rfl) ?_
  refine lv_aload_n hx hb dL_law_1434 rfl (lv_at hl 5 rfl) ?_
  refine lv_iload hx hb dL_law_1435 (lv_at hl 1 rfl) ?_
  refine lv_iconst (v := 1) hx hb dL_law_1437 (by decide) ?_
  refine lv_iadd hx hb dL_law_1438 ?_
  refine va_sld hx hb hX hbl (Nat.not_le.mpr hbl) hS (w_in (k := 1) hi hL (by omega)) dL_law_1439 ?_
  refine i_call (Wd := fun m9 => mw qm cI m9) (w0 := mw qm cI mm) (wo := bw qb cI bs ++ sw qs cI s1 ++ uw qu cI cB u ++ aw qr cI tr ++ ew qe cI te ++ xw qx cI x ++ dw qd cI cO eA rd ++ kw qk qb qr qe qs qu qx qd cI kk ++ lo cL ao (oN c1 r1 o)) (va_runV (mc := 0) (ms := 0) (As := [.int (xs (nI i + 1).toNatClampNeg)]) (rest := []) ⟨hx, hb, hml, hown, hts⟩ (mX12_error l dC dI cI cB cO cL qm mm (xs (nI i + 1).toNatClampNeg) hIm kM) (cwV 1 hts gW_X12_error rfl rfl rfl (by decide +kernel) ⟨Nat.le_of_ble_eq_true rfl, Nat.le_of_ble_eq_true rfl⟩) ⟨gP_blind, va_recv hK hm9 (ci := 9) (q0 := 0) rfl rfl, gP_ok hm9 hK⟩ rfl rfl hl.1 rfl (lv_room (Nat.le_of_ble_eq_true rfl)) dL_law_1440 ⟨hcl0, hsl0⟩) (va_P.app (va_P.app (va_P.app (va_P.app (va_P.app (va_P.app (va_P.app (va_P.app hb9 hs9) hu9) hr9) he9) hx9) hd9) hk9) ho9) (gC_T hG [8, 0, 1, 2, 3, 4, 5, 6, 7, 9] rfl rfl) (fun q h => Or.inl (mem_wA h)) (fun q h => Or.inl (mem_wA h)) (gC_N hG [8] rfl rfl) hA hS (fun r2 m2 H locs hp2 hm9 hO hS => ?_)
  have hp2 : (r2, m2) = pX12_error mm (xs (nI i + 1).toNatClampNeg) := hp2
  have ho9 := va_P_suf hO
  have t509 := va_P_pre hO
  have hk9 := va_P_suf t509
  have t529 := va_P_pre t509
  have hd9 := va_P_suf t529
  have t549 := va_P_pre t529
  have hx9 := va_P_suf t549
  have t569 := va_P_pre t549
  have he9 := va_P_suf t569
  have t589 := va_P_pre t569
  have hr9 := va_P_suf t589
  have t609 := va_P_pre t589
  have hu9 := va_P_suf t609
  have t629 := va_P_pre t609
  have hs9 := va_P_suf t629
  have t649 := va_P_pre t629
  have hb9 := t649
  have e2 : r2 = (pX12_error mm (xs (nI i + 1).toNatClampNeg)).1 := by rw [← hp2]
  have e3 : m2 = (pX12_error mm (xs (nI i + 1).toNatClampNeg)).2 := by rw [← hp2]
  rw [← e3] at hR h3
  rw [← e2] at h4
  refine lv_istore (lv' := [(6, .int r2), (5, .int (rcN 1 c1)), (4, .int (nI i)), (3, .ref ao), (2, .ref (qm 0)), (1, .ref (qk 0)), (0, .ref b)]) hx hb dL_law_1443 hl (by decide) rfl (fun ls hl => ?_)
  refine lv_aload_n hx hb dL_law_1445 rfl (lv_at hl 4 rfl) ?_
  refine gro_i (va_runV (mc := 0) (ms := 0) (As := []) (rest := []) ⟨hx, hb, hml, hown, hts⟩ (mX12_thrown l dC dI cI cB cO cL qm m2) (cwV 0 hts gW_X12_thrown rfl rfl rfl (by decide +kernel) ⟨Nat.le_of_ble_eq_true rfl, Nat.le_of_ble_eq_true rfl⟩) ⟨gP_blind, va_recv hK hm9 (ci := 9) (q0 := 0) rfl rfl, gP_ok hm9 hK⟩ rfl rfl hl.1 rfl (lv_room (Nat.le_of_ble_eq_true rfl)) dL_law_1446 ⟨hcl0, hsl0⟩) ?_
  refine lv_iload hx hb dL_law_1449 (lv_at hl 1 rfl) ?_
  refine lv_icmp_eq (tgt := 1456) hx hb dL_law_1451 (by decide) (fun _ => ?_) (fun h9 => absurd (show pX12_thrown m2 = rcN 1 c1 from h3.trans hmp.symm) h9)
  refine lv_iload hx hb dL_law_1456 (lv_at hl 1 rfl) ?_
  refine lv_if_ne (tgt := 1473) hx hb dL_law_1458 (by decide) (fun _ => ?_) (fun h9 => ?_)
  · refine lv_goto (tgt := 1972) hx hb dL_law_1473 (by decide) ?_
    exact hgo bs s1 u tr te x rd kk m2 ((oN c1 r1 o)) _ _ _ ⟨hb9, hs9, hu9, hr9, he9, hx9, hd9, hk9, hm9, ho9⟩ hR hS (lv_sub hl [2, 3, 4, 5, 6] rfl)
  · refine lv_aload_n hx hb dL_law_1461 rfl (lv_at hl 3 rfl) ?_
    refine lv_iconst (v := 0) hx hb dL_law_1462 (by decide) ?_
    refine va_lald (D := (dC, dI)) (tys := tYS cI cB cO cL) hx hb hK ho9 0 3 rfl rfl (vp_in_n (i := 0) (by omega) (by omega)) dL_law_1463 ?_
    refine lv_iload hx hb dL_law_1464 (lv_at hl 0 rfl) ?_
    refine lv_i2l hx hb dL_law_1466 rfl ?_
    refine W.lcmp hx hb dL_law_1467 ?_
    refine lv_if_eq (tgt := 1473) hx hb dL_law_1468 (by decide) (fun _ => ?_) (fun h8 => absurd ((lg_cmp_eq _ _).mpr ?_) h8)
    · refine lv_goto (tgt := 1972) hx hb dL_law_1473 (by decide) ?_
      exact hgo bs s1 u tr te x rd kk m2 ((oN c1 r1 o)) _ _ _ ⟨hb9, hs9, hu9, hr9, he9, hx9, hd9, hk9, hm9, ho9⟩ hR hS (lv_sub hl [2, 3, 4, 5, 6] rfl)
    · have h7 := rcN_0 h9
      show oN c1 r1 o 0 = r2.toInt64
      rw [oN_0 h7, h4 h7]
end CASES2
