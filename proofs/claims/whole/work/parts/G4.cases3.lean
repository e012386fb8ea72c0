/-! THE LAW: cases of its loop (3) -/
section CASES3
set_option maxHeartbeats 4000000 in
set_option maxRecDepth 100000 in
theorem w_blame (p : Program) (l : Launch) (e : Env) (s : State) (m : MethodId) (below : List Frame) (meth : Method) (c : Code) (b L : Nat) (xs : Nat → Int32) (dC : Nat → ClassId) (dI : Nat → Nat → Nat) (cI cB cO cL : ClassId) (sT eA qb qs qu qr qe qx qd qk qm : Nat → Nat) (ao : Nat) (hLS : LStart p l s m meth c b L xs (dC, dI) cI cB cO cL sT eA qb qs qu qr qe qx qd qk qm ao) (i : Nat) (hi : i + 6 ≤ L) (bs : BS) (s9 : SS) (u : US) (tr te x : TS) (rd : RS) (kk : Int32) (mm : MS) (o : Nat → Int64) (H : Heap) (locs : List Loc) (ls : Array Slot) (cells slots : Nat) (hcl : cells + 4 ≤ 601024) (hsl : slots + 24 ≤ 7293034) (hI : LI (dC, dI) cI cB cO cL eA qb qs qu qr qe qx qd qk qm ao bs s9 u tr te x rd kk mm o H) (hR : SR bs s9 u x kk mm) (hS : va_S (xA s.heap.size) s.heap H locs) (hl : lv_has ls 9 (lvL b ao qm qk i)) (hgo : LGo p l e s m below meth c b (dC, dI) cI cB cO cL eA qb qs qu qr qe qx qd qk qm ao i (cells + 4) (slots + 24)) : W p l e room_1 s m #[Value.ref b] below meth c H locs cells slots (lw_Z below #[Value.ref b] s) (F0 m 1558 ls []) := by
  obtain ⟨hfl, ⟨hx, hb, hr, hml, hown, hts, hlocks⟩, hK, hF, hC, hX, hbl, hL, hG⟩ := hLS
  obtain ⟨hb9, hs9, hu9, hr9, he9, hx9, hd9, hk9, hm9, ho9⟩ := hI
  have hA : ∀ q : Nat, s.heap.size ≤ q → xA s.heap.size q := fun q h => h
  have hIm : gD (fun _ => True) (mAd qm) := gC_T hG [8] rfl rfl
  obtain ⟨c1, r1, s1, e1, kC, kM, hR, ⟨h3, h4⟩, -⟩ := blame_op hR (xs (nI i + 1).toNatClampNeg)
  have hc9 := cod_blame (P := fun z => z = 0 ∨ z = 1) s9 bs kk (xs (nI i + 1).toNatClampNeg) (by decide) (by decide)
  have hmp := cod_blame (P := fun z => rcN 1 z = mpB z) s9 bs kk (xs (nI i + 1).toNatClampNeg) (by decide) (by decide)
  rw [e1] at hmp
  have hmp : rcN 1 c1 = mpB c1 := hmp
  have hcl0 : cells + 4 + 0 ≤ 601024 := hcl
  have hsl0 : slots + 24 + 0 ≤ 7293034 := hsl
  refine lv_aload_n hx hb dL_law_1558 rfl (lv_at hl 3 rfl) ?_
  refine lv_aload_n hx hb dL_law_1559 rfl (lv_at hl 4 rfl) ?_
  refine lv_iload hx hb dL_law_1560 (lv_at hl 0 rfl) ?_
  refine lv_iconst (v := 1) hx hb dL_law_1562 (by decide) ?_
  refine lv_iadd hx hb dL_law_1563 ?_
  refine va_sld hx hb hX hbl (Nat.not_le.mpr hbl) hS (w_in (k := 1) hi hL (by omega)) dL_law_1564 ?_
  refine lv_aload_n hx hb dL_law_1565 rfl (lv_at hl 1 rfl) ?_
  refine i_call (Wd := fun v9 : (SS × BS × Int32) × (Nat → Int64) => ((fun z9 : SS × BS × Int32 => sw qs cI z9.1 ++ bw qb cI z9.2.1 ++ kw qk qb qr qe qs qu qx qd cI z9.2.2)) v9.1 ++ lo cL ao v9.2) (w0 := sw qs cI s9 ++ bw qb cI bs ++ kw qk qb qr qe qs qu qx qd cI kk ++ lo cL ao o) (wo := uw qu cI cB u ++ aw qr cI tr ++ ew qe cI te ++ xw qx cI x ++ dw qd cI cO eA rd ++ mw qm cI mm) (vx_runSW (mc := 4) (ms := 24) (As := [.ref (qk 0), .int (xs (nI i + 1).toNatClampNeg), .ref ao]) (rest := []) ⟨hx, hb, hml, hown, hts⟩ (mL_blame l hfl dC dI cI cB cO cL s.heap.size sT eA qs qb qk qr qe qu qx qd s9 bs kk (xs (nI i + 1).toNatClampNeg) ao o H.size hS.1 (gC_T hG [1, 0, 7, 9] rfl rfl) (gC_N hG [1, 0, 7, 9] rfl rfl) kC hc9) (vx_cwSW 3 hts gW_L_blame rfl rfl rfl (by decide +kernel) ⟨Nat.le_of_ble_eq_true rfl, Nat.le_of_ble_eq_true rfl⟩) ⟨lP_blind, lP_ok (A := xA s.heap.size) (va_P.app (va_P.app (va_P.app hs9 hb9) hk9) ho9) hK hF hC hS (fun q h => h)⟩ rfl rfl hl.1 rfl (lv_room (Nat.le_of_ble_eq_true rfl)) dL_law_1566 ⟨hcl, hsl⟩) (va_P.app (va_P.app (va_P.app (va_P.app (va_P.app hu9 hr9) he9) hx9) hd9) hm9) (gC_T hG [1, 0, 7, 9, 2, 3, 4, 5, 6, 8] rfl rfl) (fun q h => mem_vA h) (fun q h => mem_vA h) (gC_N hG [1, 0, 7, 9] rfl rfl) hA hS (fun r9 v9 H locs hp hP hO hS => ?_)
  rw [e1, lF_eq] at hp
  obtain ⟨rfl, rfl⟩ := Prod.mk.inj hp
  have hm9 := va_P_suf hO
  have t229 := va_P_pre hO
  have hd9 := va_P_suf t229
  have t249 := va_P_pre t229
  have hx9 := va_P_suf t249
  have t269 := va_P_pre t249
  have he9 := va_P_suf t269
  have t289 := va_P_pre t269
  have hr9 := va_P_suf t289
  have t309 := va_P_pre t289
  have hu9 := t309
  have hP : va_P (dC, dI) vwCl (sw qs cI s1 ++ bw qb cI bs ++ kw qk qb qr qe qs qu qx qd cI kk ++ lo cL ao (oN c1 r1 o)) H := hP
  have ho9 := va_P_suf hP
  have t349 := va_P_pre hP
  have hk9 := va_P_suf t349
  have t369 := va_P_pre t349
  have hb9 := va_P_suf t369
  have t389 := va_P_pre t369
  have hs9 := t389
  refine lv_istore (lv' := [(5, .int (rcN 1 c1)), (4, .int (nI i)), (3, .ref ao), (2, .ref (qm 0)), (1, .ref (qk 0)), (0, .ref b)]) hx hb dL_law_1569 hl (by decide) rfl (fun ls hl => ?_)
  refine lv_aload_n hx hb dL_law_1571 rfl (lv_at hl 3 rfl) ?_
  refine lv_aload_n hx hb dL_law_1572 rfl (lv_at hl 5 rfl) ?_
  refine lv_iload hx hb dL_law_1573 (lv_at hl 1 rfl) ?_
  refine lv_iconst (v := 1) hx hb dL_law_1575 (by decide) ?_
  refine lv_iadd hx hb dL_law_1576 ?_
  refine va_sld hx hb hX hbl (Nat.not_le.mpr hbl) hS (w_in (k := 1) hi hL (by omega)) dL_law_1577 ?_
  refine i_call (Wd := fun m9 => mw qm cI m9) (w0 := mw qm cI mm) (wo := bw qb cI bs ++ sw qs cI s1 ++ uw qu cI cB u ++ aw qr cI tr ++ ew qe cI te ++ xw qx cI x ++ dw qd cI cO eA rd ++ kw qk qb qr qe qs qu qx qd cI kk ++ lo cL ao (oN c1 r1 o)) (va_runV (mc := 0) (ms := 0) (As := [.int (xs (nI i + 1).toNatClampNeg)]) (rest := []) ⟨hx, hb, hml, hown, hts⟩ (mX12_blame l dC dI cI cB cO cL qm mm (xs (nI i + 1).toNatClampNeg) hIm kM) (cwV 1 hts gW_X12_blame rfl rfl rfl (by decide +kernel) ⟨Nat.le_of_ble_eq_true rfl, Nat.le_of_ble_eq_true rfl⟩) ⟨gP_blind, va_recv hK hm9 (ci := 9) (q0 := 0) rfl rfl, gP_ok hm9 hK⟩ rfl rfl hl.1 rfl (lv_room (Nat.le_of_ble_eq_true rfl)) dL_law_1578 ⟨hcl0, hsl0⟩) (va_P.app (va_P.app (va_P.app (va_P.app (va_P.app (va_P.app (va_P.app (va_P.app hb9 hs9) hu9) hr9) he9) hx9) hd9) hk9) ho9) (gC_T hG [8, 0, 1, 2, 3, 4, 5, 6, 7, 9] rfl rfl) (fun q h => Or.inl (mem_wA h)) (fun q h => Or.inl (mem_wA h)) (gC_N hG [8] rfl rfl) hA hS (fun r2 m2 H locs hp2 hm9 hO hS => ?_)
  have hp2 : (r2, m2) = pX12_blame mm (xs (nI i + 1).toNatClampNeg) := hp2
  have ho9 := va_P_suf hO
  have t509 := va_P_pre hO
  have hk9 := va_P_suf t509
  have t529 := va_P_pre t509
  have hd9 := va_P_suf t529
  have t549 := va_P_pre t529
  have hx9 := va_P_suf t549
  have t569 := va_P_pre t549
  have he9 := va_P_suf t569
  have t589 := va_P_pre t569
  have hr9 := va_P_suf t589
  have t609 := va_P_pre t589
  have hu9 := va_P_suf t609
  have t629 := va_P_pre t609
  have hs9 := va_P_suf t629
  have t649 := va_P_pre t629
  have hb9 := t649
  have e2 : r2 = (pX12_blame mm (xs (nI i + 1).toNatClampNeg)).1 := by rw [← hp2]
  have e3 : m2 = (pX12_blame mm (xs (nI i + 1).toNatClampNeg)).2 := by rw [← hp2]
  rw [← e3] at hR h3
  rw [← e2] at h4
  refine lv_istore (lv' := [(6, .int r2), (5, .int (rcN 1 c1)), (4, .int (nI i)), (3, .ref ao), (2, .ref (qm 0)), (1, .ref (qk 0)), (0, .ref b)]) hx hb dL_law_1581 hl (by decide) rfl (fun ls hl => ?_)
  refine lv_aload_n hx hb dL_law_1583 rfl (lv_at hl 4 rfl) ?_
  refine gro_i (va_runV (mc := 0) (ms := 0) (As := []) (rest := []) ⟨hx, hb, hml, hown, hts⟩ (mX12_thrown l dC dI cI cB cO cL qm m2) (cwV 0 hts gW_X12_thrown rfl rfl rfl (by decide +kernel) ⟨Nat.le_of_ble_eq_true rfl, Nat.le_of_ble_eq_true rfl⟩) ⟨gP_blind, va_recv hK hm9 (ci := 9) (q0 := 0) rfl rfl, gP_ok hm9 hK⟩ rfl rfl hl.1 rfl (lv_room (Nat.le_of_ble_eq_true rfl)) dL_law_1584 ⟨hcl0, hsl0⟩) ?_
  refine lv_iload hx hb dL_law_1587 (lv_at hl 1 rfl) ?_
  refine lv_icmp_eq (tgt := 1594) hx hb dL_law_1589 (by decide) (fun _ => ?_) (fun h9 => absurd (show pX12_thrown m2 = rcN 1 c1 from h3.trans hmp.symm) h9)
  refine lv_iload hx hb dL_law_1594 (lv_at hl 1 rfl) ?_
  refine lv_if_ne (tgt := 1611) hx hb dL_law_1596 (by decide) (fun _ => ?_) (fun h9 => ?_)
  · refine lv_goto (tgt := 1972) hx hb dL_law_1611 (by decide) ?_
    exact hgo bs s1 u tr te x rd kk m2 ((oN c1 r1 o)) _ _ _ ⟨hb9, hs9, hu9, hr9, he9, hx9, hd9, hk9, hm9, ho9⟩ hR hS (lv_sub hl [2, 3, 4, 5, 6] rfl)
  · refine lv_aload_n hx hb dL_law_1599 rfl (lv_at hl 3 rfl) ?_
    refine lv_iconst (v := 0) hx hb dL_law_1600 (by decide) ?_
    refine va_lald (D := (dC, dI)) (tys := tYS cI cB cO cL) hx hb hK ho9 0 3 rfl rfl (vp_in_n (i := 0) (by omega) (by omega)) dL_law_1601 ?_
    refine lv_iload hx hb dL_law_1602 (lv_at hl 0 rfl) ?_
    refine lv_i2l hx hb dL_law_1604 rfl ?_
    refine W.lcmp hx hb dL_law_1605 ?_
    refine lv_if_eq (tgt := 1611) hx hb dL_law_1606 (by decide) (fun _ => ?_) (fun h8 => absurd ((lg_cmp_eq _ _).mpr ?_) h8)
    · refine lv_goto (tgt := 1972) hx hb dL_law_1611 (by decide) ?_
      exact hgo bs s1 u tr te x rd kk m2 ((oN c1 r1 o)) _ _ _ ⟨hb9, hs9, hu9, hr9, he9, hx9, hd9, hk9, hm9, ho9⟩ hR hS (lv_sub hl [2, 3, 4, 5, 6] rfl)
    · have h7 := rcN_0 h9
      show oN c1 r1 o 0 = r2.toInt64
      rw [oN_0 h7, h4 h7]
set_option maxHeartbeats 4000000 in
set_option maxRecDepth 100000 in
theorem w_foundWithout (p : Program) (l : Launch) (e : Env) (s : State) (m : MethodId) (below : List Frame) (meth : Method) (c : Code) (b L : Nat) (xs : Nat → Int32) (dC : Nat → ClassId) (dI : Nat → Nat → Nat) (cI cB cO cL : ClassId) (sT eA qb qs qu qr qe qx qd qk qm : Nat → Nat) (ao : Nat) (hLS : LStart p l s m meth c b L xs (dC, dI) cI cB cO cL sT eA qb qs qu qr qe qx qd qk qm ao) (i : Nat) (hi : i + 6 ≤ L) (bs : BS) (s9 : SS) (u : US) (tr te x : TS) (rd : RS) (kk : Int32) (mm : MS) (o : Nat → Int64) (H : Heap) (locs : List Loc) (ls : Array Slot) (cells slots : Nat) (hcl : cells + 4 ≤ 601024) (hsl : slots + 24 ≤ 7293034) (hI : LI (dC, dI) cI cB cO cL eA qb qs qu qr qe qx qd qk qm ao bs s9 u tr te x rd kk mm o H) (hR : SR bs s9 u x kk mm) (hS : va_S (xA s.heap.size) s.heap H locs) (hl : lv_has ls 9 (lvL b ao qm qk i)) (hgo : LGo p l e s m below meth c b (dC, dI) cI cB cO cL eA qb qs qu qr qe qx qd qk qm ao i (cells + 4) (slots + 24)) : W p l e room_1 s m #[Value.ref b] below meth c H locs cells slots (lw_Z below #[Value.ref b] s) (F0 m 1627 ls []) := by
  obtain ⟨hfl, ⟨hx, hb, hr, hml, hown, hts, hlocks⟩, hK, hF, hC, hX, hbl, hL, hG⟩ := hLS
  obtain ⟨hb9, hs9, hu9, hr9, he9, hx9, hd9, hk9, hm9, ho9⟩ := hI
  have hA : ∀ q : Nat, s.heap.size ≤ q → xA s.heap.size q := fun q h => h
  have hIm : gD (fun _ => True) (mAd qm) := gC_T hG [8] rfl rfl
  obtain ⟨c1, r1, s1, e1, kC, kM, hR, ⟨h3, h4⟩, -⟩ := without_op hR (xs (nI i + 1).toNatClampNeg)
  have hc9 := cod_foundWithout (P := fun z => z = 0 ∨ z = 1) s9 bs kk (xs (nI i + 1).toNatClampNeg) (by decide) (by decide)
  have hmp := cod_foundWithout (P := fun z => rcN 1 z = mpB z) s9 bs kk (xs (nI i + 1).toNatClampNeg) (by decide) (by decide)
  rw [e1] at hmp
  have hmp : rcN 1 c1 = mpB c1 := hmp
  have hcl0 : cells + 4 + 0 ≤ 601024 := hcl
  have hsl0 : slots + 24 + 0 ≤ 7293034 := hsl
  refine lv_aload_n hx hb dL_law_1627 rfl (lv_at hl 3 rfl) ?_
  refine lv_aload_n hx hb dL_law_1628 rfl (lv_at hl 4 rfl) ?_
  refine lv_iload hx hb dL_law_1629 (lv_at hl 0 rfl) ?_
  refine lv_iconst (v := 1) hx hb dL_law_1631 (by decide) ?_
  refine lv_iadd hx hb dL_law_1632 ?_
  refine va_sld hx hb hX hbl (Nat.not_le.mpr hbl) hS (w_in (k := 1) hi hL (by omega)) dL_law_1633 ?_
  refine lv_aload_n hx hb dL_law_1634 rfl (lv_at hl 1 rfl) ?_
  refine i_call (Wd := fun v9 : (SS × BS × Int32) × (Nat → Int64) => ((fun z9 : SS × BS × Int32 => sw qs cI z9.1 ++ bw qb cI z9.2.1 ++ kw qk qb qr qe qs qu qx qd cI z9.2.2)) v9.1 ++ lo cL ao v9.2) (w0 := sw qs cI s9 ++ bw qb cI bs ++ kw qk qb qr qe qs qu qx qd cI kk ++ lo cL ao o) (wo := uw qu cI cB u ++ aw qr cI tr ++ ew qe cI te ++ xw qx cI x ++ dw qd cI cO eA rd ++ mw qm cI mm) (vx_runSW (mc := 4) (ms := 24) (As := [.ref (qk 0), .int (xs (nI i + 1).toNatClampNeg), .ref ao]) (rest := []) ⟨hx, hb, hml, hown, hts⟩ (mL_foundWithout l hfl dC dI cI cB cO cL s.heap.size sT eA qs qb qk qr qe qu qx qd s9 bs kk (xs (nI i + 1).toNatClampNeg) ao o H.size hS.1 (gC_T hG [1, 0, 7, 9] rfl rfl) (gC_N hG [1, 0, 7, 9] rfl rfl) kC hc9) (vx_cwSW 3 hts gW_L_foundWithout rfl rfl rfl (by decide +kernel) ⟨Nat.le_of_ble_eq_true rfl, Nat.le_of_ble_eq_true rfl⟩) ⟨lP_blind, lP_ok (A := xA s.heap.size) (va_P.app (va_P.app (va_P.app hs9 hb9) hk9) ho9) hK hF hC hS (fun q h => h)⟩ rfl rfl hl.1 rfl (lv_room (Nat.le_of_ble_eq_true rfl)) dL_law_1635 ⟨hcl, hsl⟩) (va_P.app (va_P.app (va_P.app (va_P.app (va_P.app hu9 hr9) he9) hx9) hd9) hm9) (gC_T hG [1, 0, 7, 9, 2, 3, 4, 5, 6, 8] rfl rfl) (fun q h => mem_vA h) (fun q h => mem_vA h) (gC_N hG [1, 0, 7, 9] rfl rfl) hA hS (fun r9 v9 H locs hp hP hO hS => ?_)
  rw [e1, lF_eq] at hp
  obtain ⟨rfl, rfl⟩ := Prod.mk.inj hp
  have hm9 := va_P_suf hO
  have t229 := va_P_pre hO
  have hd9 := va_P_suf t229
  have t249 := va_P_pre t229
  have hx9 := va_P_suf t249
  have t269 := va_P_pre t249
  have he9 := va_P_suf t269
  have t289 := va_P_pre t269
  have hr9 := va_P_suf t289
  have t309 := va_P_pre t289
  have hu9 := t309
  have hP : va_P (dC, dI) vwCl (sw qs cI s1 ++ bw qb cI bs ++ kw qk qb qr qe qs qu qx qd cI kk ++ lo cL ao (oN c1 r1 o)) H := hP
  have ho9 := va_P_suf hP
  have t349 := va_P_pre hP
  have hk9 := va_P_suf t349
  have t369 := va_P_pre t349
  have hb9 := va_P_suf t369
  have t389 := va_P_pre t369
  have hs9 := t389
  refine lv_istore (lv' := [(5, .int (rcN 1 c1)), (4, .int (nI i)), (3, .ref ao), (2, .ref (qm 0)), (1, .ref (qk 0)), (0, .ref b)]) hx hb dL_law_1638 hl (by decide) rfl (fun ls hl => ?_)
  refine lv_aload_n hx hb dL_law_1640 rfl (lv_at hl 3 rfl) ?_
  refine lv_aload_n hx hb dL_law_1641 rfl (lv_at hl 5 rfl) ?_
  refine lv_iload hx hb dL_law_1642 (lv_at hl 1 rfl) ?_
  refine lv_iconst (v := 1) hx hb dL_law_1644 (by decide) ?_
  refine lv_iadd hx hb dL_law_1645 ?_
  refine va_sld hx hb hX hbl (Nat.not_le.mpr hbl) hS (w_in (k := 1) hi hL (by omega)) dL_law_1646 ?_
  refine i_call (Wd := fun m9 => mw qm cI m9) (w0 := mw qm cI mm) (wo := bw qb cI bs ++ sw qs cI s1 ++ uw qu cI cB u ++ aw qr cI tr ++ ew qe cI te ++ xw qx cI x ++ dw qd cI cO eA rd ++ kw qk qb qr qe qs qu qx qd cI kk ++ lo cL ao (oN c1 r1 o)) (va_runV (mc := 0) (ms := 0) (As := [.int (xs (nI i + 1).toNatClampNeg)]) (rest := []) ⟨hx, hb, hml, hown, hts⟩ (mX12_foundWithout l dC dI cI cB cO cL qm mm (xs (nI i + 1).toNatClampNeg) hIm kM) (cwV 1 hts gW_X12_foundWithout rfl rfl rfl (by decide +kernel) ⟨Nat.le_of_ble_eq_true rfl, Nat.le_of_ble_eq_true rfl⟩) ⟨gP_blind, va_recv hK hm9 (ci := 9) (q0 := 0) rfl rfl, gP_ok hm9 hK⟩ rfl rfl hl.1 rfl (lv_room (Nat.le_of_ble_eq_true rfl)) dL_law_1647 ⟨hcl0, hsl0⟩) (va_P.app (va_P.app (va_P.app (va_P.app (va_P.app (va_P.app (va_P.app (va_P.app hb9 hs9) hu9) hr9) he9) hx9) hd9) hk9) ho9) (gC_T hG [8, 0, 1, 2, 3, 4, 5, 6, 7, 9] rfl rfl) (fun q h => Or.inl (mem_wA h)) (fun q h => Or.inl (mem_wA h)) (gC_N hG [8] rfl rfl) hA hS (fun r2 m2 H locs hp2 hm9 hO hS => ?_)
  have hp2 : (r2, m2) = pX12_foundWithout mm (xs (nI i + 1).toNatClampNeg) := hp2
  have ho9 := va_P_suf hO
  have t509 := va_P_pre hO
  have hk9 := va_P_suf t509
  have t529 := va_P_pre t509
  have hd9 := va_P_suf t529
  have t549 := va_P_pre t529
  have hx9 := va_P_suf t549
  have t569 := va_P_pre t549
  have he9 := va_P_suf t569
  have t589 := va_P_pre t569
  have hr9 := va_P_suf t589
  have t609 := va_P_pre t589
  have hu9 := va_P_suf t609
  have t629 := va_P_pre t609
  have hs9 := va_P_suf t629
  have t649 := va_P_pre t629
  have hb9 := t649
  have e2 : r2 = (pX12_foundWithout mm (xs (nI i + 1).toNatClampNeg)).1 := by rw [← hp2]
  have e3 : m2 = (pX12_foundWithout mm (xs (nI i + 1).toNatClampNeg)).2 := by rw [← hp2]
  rw [← e3] at hR h3
  rw [← e2] at h4
  refine lv_istore (lv' := [(6, .int r2), (5, .int (rcN 1 c1)), (4, .int (nI i)), (3, .ref ao), (2, .ref (qm 0)), (1, .ref (qk 0)), (0, .ref b)]) hx hb dL_law_1650 hl (by decide) rfl (fun ls hl => ?_)
  refine lv_aload_n hx hb dL_law_1652 rfl (lv_at hl 4 rfl) ?_
  refine gro_i (va_runV (mc := 0) (ms := 0) (As := []) (rest := []) ⟨hx, hb, hml, hown, hts⟩ (mX12_thrown l dC dI cI cB cO cL qm m2) (cwV 0 hts gW_X12_thrown rfl rfl rfl (by decide +kernel) ⟨Nat.le_of_ble_eq_true rfl, Nat.le_of_ble_eq_true rfl⟩) ⟨gP_blind, va_recv hK hm9 (ci := 9) (q0 := 0) rfl rfl, gP_ok hm9 hK⟩ rfl rfl hl.1 rfl (lv_room (Nat.le_of_ble_eq_true rfl)) dL_law_1653 ⟨hcl0, hsl0⟩) ?_
  refine lv_iload hx hb dL_law_1656 (lv_at hl 1 rfl) ?_
  refine lv_icmp_eq (tgt := 1663) hx hb dL_law_1658 (by decide) (fun _ => ?_) (fun h9 => absurd (show pX12_thrown m2 = rcN 1 c1 from h3.trans hmp.symm) h9)
  refine lv_iload hx hb dL_law_1663 (lv_at hl 1 rfl) ?_
  refine lv_if_ne (tgt := 1680) hx hb dL_law_1665 (by decide) (fun _ => ?_) (fun h9 => ?_)
  · refine lv_goto (tgt := 1972) hx hb dL_law_1680 (by decide) ?_
    exact hgo bs s1 u tr te x rd kk m2 ((oN c1 r1 o)) _ _ _ ⟨hb9, hs9, hu9, hr9, he9, hx9, hd9, hk9, hm9, ho9⟩ hR hS (lv_sub hl [2, 3, 4, 5, 6] rfl)
  · refine lv_aload_n hx hb dL_law_1668 rfl (lv_at hl 3 rfl) ?_
    refine lv_iconst (v := 0) hx hb dL_law_1669 (by decide) ?_
    refine va_lald (D := (dC, dI)) (tys := tYS cI cB cO cL) hx hb hK ho9 0 3 rfl rfl (vp_in_n (i := 0) (by omega) (by omega)) dL_law_1670 ?_
    refine lv_iload hx hb dL_law_1671 (lv_at hl 0 rfl) ?_
    refine lv_i2l hx hb dL_law_1673 rfl ?_
    refine W.lcmp hx hb dL_law_1674 ?_
    refine lv_if_eq (tgt := 1680) hx hb dL_law_1675 (by decide) (fun _ => ?_) (fun h8 => absurd ((lg_cmp_eq _ _).mpr ?_) h8)
    · refine lv_goto (tgt := 1972) hx hb dL_law_1680 (by decide) ?_
      exact hgo bs s1 u tr te x rd kk m2 ((oN c1 r1 o)) _ _ _ ⟨hb9, hs9, hu9, hr9, he9, hx9, hd9, hk9, hm9, ho9⟩ hR hS (lv_sub hl [2, 3, 4, 5, 6] rfl)
    · have h7 := rcN_0 h9
      show oN c1 r1 o 0 = r2.toInt64
      rw [oN_0 h7, h4 h7]
set_option maxHeartbeats 4000000 in
set_option maxRecDepth 100000 in
theorem w_whole (p : Program) (l : Launch) (e : Env) (s : State) (m : MethodId) (below : List Frame) (meth : Method) (c : Code) (b L : Nat) (xs : Nat → Int32) (dC : Nat → ClassId) (dI : Nat → Nat → Nat) (cI cB cO cL : ClassId) (sT eA qb qs qu qr qe qx qd qk qm : Nat → Nat) (ao : Nat) (hLS : LStart p l s m meth c b L xs (dC, dI) cI cB cO cL sT eA qb qs qu qr qe qx qd qk qm ao) (i : Nat) (hi : i + 6 ≤ L) (bs : BS) (s9 : SS) (u : US) (tr te x : TS) (rd : RS) (kk : Int32) (mm : MS) (o : Nat → Int64) (H : Heap) (locs : List Loc) (ls : Array Slot) (cells slots : Nat) (hcl : cells + 4 ≤ 601024) (hsl : slots + 24 ≤ 7293034) (hI : LI (dC, dI) cI cB cO cL eA qb qs qu qr qe qx qd qk qm ao bs s9 u tr te x rd kk mm o H) (hR : SR bs s9 u x kk mm) (hS : va_S (xA s.heap.size) s.heap H locs) (hl : lv_has ls 9 (lvL b ao qm qk i)) (hgo : LGo p l e s m below meth c b (dC, dI) cI cB cO cL eA qb qs qu qr qe qx qd qk qm ao i (cells + 4) (slots + 24)) : W p l e room_1 s m #[Value.ref b] below meth c H locs cells slots (lw_Z below #[Value.ref b] s) (F0 m 1683 ls []) := by
  obtain ⟨hfl, ⟨hx, hb, hr, hml, hown, hts, hlocks⟩, hK, hF, hC, hX, hbl, hL, hG⟩ := hLS
  obtain ⟨hb9, hs9, hu9, hr9, he9, hx9, hd9, hk9, hm9, ho9⟩ := hI
  have hA : ∀ q : Nat, s.heap.size ≤ q → xA s.heap.size q := fun q h => h
  have hIm : gD (fun _ => True) (mAd qm) := gC_T hG [8] rfl rfl
  obtain ⟨c1, r1, s1, e1, kC, kM, hR, ⟨h3, h4⟩, -⟩ := whole_op hR (xs (nI i + 1).toNatClampNeg)
  have hc9 := cod_whole (P := fun z => z = 0 ∨ z = 2) s9 bs kk (xs (nI i + 1).toNatClampNeg) (by decide) (by decide)
  have hmp := cod_whole (P := fun z => rcN 2 z = mpA z) s9 bs kk (xs (nI i + 1).toNatClampNeg) (by decide) (by decide)
  rw [e1] at hmp
  have hmp : rcN 2 c1 = mpA c1 := hmp
  have hcl0 : cells + 4 + 0 ≤ 601024 := hcl
  have hsl0 : slots + 24 + 0 ≤ 7293034 := hsl
  refine lv_aload_n hx hb dL_law_1683 rfl (lv_at hl 3 rfl) ?_
  refine lv_aload_n hx hb dL_law_1684 rfl (lv_at hl 4 rfl) ?_
  refine lv_iload hx hb dL_law_1685 (lv_at hl 0 rfl) ?_
  refine lv_iconst (v := 1) hx hb dL_law_1687 (by decide) ?_
  refine lv_iadd hx hb dL_law_1688 ?_
  refine va_sld hx hb hX hbl (Nat.not_le.mpr hbl) hS (w_in (k := 1) hi hL (by omega)) dL_law_1689 ?_
  refine lv_aload_n hx hb dL_law_1690 rfl (lv_at hl 1 rfl) ?_
  refine i_call (Wd := fun v9 : (SS × BS × Int32) × (Nat → Int64) => ((fun z9 : SS × BS × Int32 => sw qs cI z9.1 ++ bw qb cI z9.2.1 ++ kw qk qb qr qe qs qu qx qd cI z9.2.2)) v9.1 ++ lo cL ao v9.2) (w0 := sw qs cI s9 ++ bw qb cI bs ++ kw qk qb qr qe qs qu qx qd cI kk ++ lo cL ao o) (wo := uw qu cI cB u ++ aw qr cI tr ++ ew qe cI te ++ xw qx cI x ++ dw qd cI cO eA rd ++ mw qm cI mm) (vx_runSW (mc := 4) (ms := 24) (As := [.ref (qk 0), .int (xs (nI i + 1).toNatClampNeg), .ref ao]) (rest := []) ⟨hx, hb, hml, hown, hts⟩ (mL_whole l hfl dC dI cI cB cO cL s.heap.size sT eA qs qb qk qr qe qu qx qd s9 bs kk (xs (nI i + 1).toNatClampNeg) ao o H.size hS.1 (gC_T hG [1, 0, 7, 9] rfl rfl) (gC_N hG [1, 0, 7, 9] rfl rfl) kC hc9) (vx_cwSW 3 hts gW_L_whole rfl rfl rfl (by decide +kernel) ⟨Nat.le_of_ble_eq_true rfl, Nat.le_of_ble_eq_true rfl⟩) ⟨lP_blind, lP_ok (A := xA s.heap.size) (va_P.app (va_P.app (va_P.app hs9 hb9) hk9) ho9) hK hF hC hS (fun q h => h)⟩ rfl rfl hl.1 rfl (lv_room (Nat.le_of_ble_eq_true rfl)) dL_law_1691 ⟨hcl, hsl⟩) (va_P.app (va_P.app (va_P.app (va_P.app (va_P.app hu9 hr9) he9) hx9) hd9) hm9) (gC_T hG [1, 0, 7, 9, 2, 3, 4, 5, 6, 8] rfl rfl) (fun q h => mem_vA h) (fun q h => mem_vA h) (gC_N hG [1, 0, 7, 9] rfl rfl) hA hS (fun r9 v9 H locs hp hP hO hS => ?_)
  rw [e1, lF_eq] at hp
  obtain ⟨rfl, rfl⟩ := Prod.mk.inj hp
  have hm9 := va_P_suf hO
  have t229 := va_P_pre hO
  have hd9 := va_P_suf t229
  have t249 := va_P_pre t229
  have hx9 := va_P_suf t249
  have t269 := va_P_pre t249
  have he9 := va_P_suf t269
  have t289 := va_P_pre t269
  have hr9 := va_P_suf t289
  have t309 := va_P_pre t289
  have hu9 := t309
  have hP : va_P (dC, dI) vwCl (sw qs cI s1 ++ bw qb cI bs ++ kw qk qb qr qe qs qu qx qd cI kk ++ lo cL ao (oN c1 r1 o)) H := hP
  have ho9 := va_P_suf hP
  have t349 := va_P_pre hP
  have hk9 := va_P_suf t349
  have t369 := va_P_pre t349
  have hb9 := va_P_suf t369
  have t389 := va_P_pre t369
  have hs9 := t389
  refine lv_istore (lv' := [(5, .int (rcN 2 c1)), (4, .int (nI i)), (3, .ref ao), (2, .ref (qm 0)), (1, .ref (qk 0)), (0, .ref b)]) hx hb dL_law_1694 hl (by decide) rfl (fun ls hl => ?_)
  refine lv_aload_n hx hb dL_law_1696 rfl (lv_at hl 3 rfl) ?_
  refine lv_aload_n hx hb dL_law_1697 rfl (lv_at hl 5 rfl) ?_
  refine lv_iload hx hb dL_law_1698 (lv_at hl 1 rfl) ?_
  refine lv_iconst (v := 1) hx hb dL_law_1700 (by decide) ?_
  refine lv_iadd hx hb dL_law_1701 ?_
  refine va_sld hx hb hX hbl (Nat.not_le.mpr hbl) hS (w_in (k := 1) hi hL (by omega)) dL_law_1702 ?_
  refine i_call (Wd := fun m9 => mw qm cI m9) (w0 := mw qm cI mm) (wo := bw qb cI bs ++ sw qs cI s1 ++ uw qu cI cB u ++ aw qr cI tr ++ ew qe cI te ++ xw qx cI x ++ dw qd cI cO eA rd ++ kw qk qb qr qe qs qu qx qd cI kk ++ lo cL ao (oN c1 r1 o)) (va_runV (mc := 0) (ms := 0) (As := [.int (xs (nI i + 1).toNatClampNeg)]) (rest := []) ⟨hx, hb, hml, hown, hts⟩ (mX12_whole l dC dI cI cB cO cL qm mm (xs (nI i + 1).toNatClampNeg) hIm kM) (cwV 1 hts gW_X12_whole rfl rfl rfl (by decide +kernel) ⟨Nat.le_of_ble_eq_true rfl, Nat.le_of_ble_eq_true rfl⟩) ⟨gP_blind, va_recv hK hm9 (ci := 9) (q0 := 0) rfl rfl, gP_ok hm9 hK⟩ rfl rfl hl.1 rfl (lv_room (Nat.le_of_ble_eq_true rfl)) dL_law_1703 ⟨hcl0, hsl0⟩) (va_P.app (va_P.app (va_P.app (va_P.app (va_P.app (va_P.app (va_P.app (va_P.app hb9 hs9) hu9) hr9) he9) hx9) hd9) hk9) ho9) (gC_T hG [8, 0, 1, 2, 3, 4, 5, 6, 7, 9] rfl rfl) (fun q h => Or.inl (mem_wA h)) (fun q h => Or.inl (mem_wA h)) (gC_N hG [8] rfl rfl) hA hS (fun r2 m2 H locs hp2 hm9 hO hS => ?_)
  have hp2 : (r2, m2) = pX12_whole mm (xs (nI i + 1).toNatClampNeg) := hp2
  have ho9 := va_P_suf hO
  have t509 := va_P_pre hO
  have hk9 := va_P_suf t509
  have t529 := va_P_pre t509
  have hd9 := va_P_suf t529
  have t549 := va_P_pre t529
  have hx9 := va_P_suf t549
  have t569 := va_P_pre t549
  have he9 := va_P_suf t569
  have t589 := va_P_pre t569
  have hr9 := va_P_suf t589
  have t609 := va_P_pre t589
  have hu9 := va_P_suf t609
  have t629 := va_P_pre t609
  have hs9 := va_P_suf t629
  have t649 := va_P_pre t629
  have hb9 := t649
  have e2 : r2 = (pX12_whole mm (xs (nI i + 1).toNatClampNeg)).1 := by rw [← hp2]
  have e3 : m2 = (pX12_whole mm (xs (nI i + 1).toNatClampNeg)).2 := by rw [← hp2]
  rw [← e3] at hR h3
  rw [← e2] at h4
  refine lv_istore (lv' := [(6, .int r2), (5, .int (rcN 2 c1)), (4, .int (nI i)), (3, .ref ao), (2, .ref (qm 0)), (1, .ref (qk 0)), (0, .ref b)]) hx hb dL_law_1706 hl (by decide) rfl (fun ls hl => ?_)
  refine lv_aload_n hx hb dL_law_1708 rfl (lv_at hl 4 rfl) ?_
  refine gro_i (va_runV (mc := 0) (ms := 0) (As := []) (rest := []) ⟨hx, hb, hml, hown, hts⟩ (mX12_thrown l dC dI cI cB cO cL qm m2) (cwV 0 hts gW_X12_thrown rfl rfl rfl (by decide +kernel) ⟨Nat.le_of_ble_eq_true rfl, Nat.le_of_ble_eq_true rfl⟩) ⟨gP_blind, va_recv hK hm9 (ci := 9) (q0 := 0) rfl rfl, gP_ok hm9 hK⟩ rfl rfl hl.1 rfl (lv_room (Nat.le_of_ble_eq_true rfl)) dL_law_1709 ⟨hcl0, hsl0⟩) ?_
  refine lv_iload hx hb dL_law_1712 (lv_at hl 1 rfl) ?_
  refine lv_icmp_eq (tgt := 1719) hx hb dL_law_1714 (by decide) (fun _ => ?_) (fun h9 => absurd (show pX12_thrown m2 = rcN 2 c1 from h3.trans hmp.symm) h9)
  refine lv_iload hx hb dL_law_1719 (lv_at hl 1 rfl) ?_
  refine lv_if_ne (tgt := 1736) hx hb dL_law_1721 (by decide) (fun _ => ?_) (fun h9 => ?_)
  · refine lv_goto (tgt := 1972) hx hb dL_law_1736 (by decide) ?_
    exact hgo bs s1 u tr te x rd kk m2 ((oN c1 r1 o)) _ _ _ ⟨hb9, hs9, hu9, hr9, he9, hx9, hd9, hk9, hm9, ho9⟩ hR hS (lv_sub hl [2, 3, 4, 5, 6] rfl)
  · refine lv_aload_n hx hb dL_law_1724 rfl (lv_at hl 3 rfl) ?_
    refine lv_iconst (v := 0) hx hb dL_law_1725 (by decide) ?_
    refine va_lald (D := (dC, dI)) (tys := tYS cI cB cO cL) hx hb hK ho9 0 3 rfl rfl (vp_in_n (i := 0) (by omega) (by omega)) dL_law_1726 ?_
    refine lv_iload hx hb dL_law_1727 (lv_at hl 0 rfl) ?_
    refine lv_i2l hx hb dL_law_1729 rfl ?_
    refine W.lcmp hx hb dL_law_1730 ?_
    refine lv_if_eq (tgt := 1736) hx hb dL_law_1731 (by decide) (fun _ => ?_) (fun h8 => absurd ((lg_cmp_eq _ _).mpr ?_) h8)
    · refine lv_goto (tgt := 1972) hx hb dL_law_1736 (by decide) ?_
      exact hgo bs s1 u tr te x rd kk m2 ((oN c1 r1 o)) _ _ _ ⟨hb9, hs9, hu9, hr9, he9, hx9, hd9, hk9, hm9, ho9⟩ hR hS (lv_sub hl [2, 3, 4, 5, 6] rfl)
    · have h7 := rcN_0 h9
      show oN c1 r1 o 0 = r2.toInt64
      rw [oN_0 h7, h4 h7]
set_option maxHeartbeats 4000000 in
set_option maxRecDepth 100000 in
theorem w_part (p : Program) (l : Launch) (e : Env) (s : State) (m : MethodId) (below : List Frame) (meth : Method) (c : Code) (b L : Nat) (xs : Nat → Int32) (dC : Nat → ClassId) (dI : Nat → Nat → Nat) (cI cB cO cL : ClassId) (sT eA qb qs qu qr qe qx qd qk qm : Nat → Nat) (ao : Nat) (hLS : LStart p l s m meth c b L xs (dC, dI) cI cB cO cL sT eA qb qs qu qr qe qx qd qk qm ao) (i : Nat) (hi : i + 6 ≤ L) (bs : BS) (s9 : SS) (u : US) (tr te x : TS) (rd : RS) (kk : Int32) (mm : MS) (o : Nat → Int64) (H : Heap) (locs : List Loc) (ls : Array Slot) (cells slots : Nat) (hcl : cells + 4 ≤ 601024) (hsl : slots + 24 ≤ 7293034) (hI : LI (dC, dI) cI cB cO cL eA qb qs qu qr qe qx qd qk qm ao bs s9 u tr te x rd kk mm o H) (hR : SR bs s9 u x kk mm) (hS : va_S (xA s.heap.size) s.heap H locs) (hl : lv_has ls 9 (lvL b ao qm qk i)) (hgo : LGo p l e s m below meth c b (dC, dI) cI cB cO cL eA qb qs qu qr qe qx qd qk qm ao i (cells + 4) (slots + 24)) : W p l e room_1 s m #[Value.ref b] below meth c H locs cells slots (lw_Z below #[Value.ref b] s) (F0 m 1739 ls []) := by
  obtain ⟨hfl, ⟨hx, hb, hr, hml, hown, hts, hlocks⟩, hK, hF, hC, hX, hbl, hL, hG⟩ := hLS
  obtain ⟨hb9, hs9, hu9, hr9, he9, hx9, hd9, hk9, hm9, ho9⟩ := hI
  have hA : ∀ q : Nat, s.heap.size ≤ q → xA s.heap.size q := fun q h => h
  have hIm : gD (fun _ => True) (mAd qm) := gC_T hG [8] rfl rfl
  obtain ⟨c1, r1, e1, kC, kM, hR, ⟨h3, h4⟩, -⟩ := part_op hR (xs (nI i + 1).toNatClampNeg) (xs (nI i + 2).toNatClampNeg) (xs (nI i + 3).toNatClampNeg)
  have hc9 := cod_part (P := fun z => z = 0 ∨ z = 2 ∨ z = 1) bs kk (xs (nI i + 1).toNatClampNeg) (xs (nI i + 2).toNatClampNeg) (xs (nI i + 3).toNatClampNeg) (by decide) (by decide) (by decide)
  have hmp := cod_part (P := fun z => rcN 2 z = mpA z) bs kk (xs (nI i + 1).toNatClampNeg) (xs (nI i + 2).toNatClampNeg) (xs (nI i + 3).toNatClampNeg) (by decide) (by decide) (by decide)
  rw [e1] at hmp
  have hmp : rcN 2 c1 = mpA c1 := hmp
  have hcl0 : cells + 4 + 0 ≤ 601024 := hcl
  have hsl0 : slots + 24 + 0 ≤ 7293034 := hsl
  refine lv_aload_n hx hb dL_law_1739 rfl (lv_at hl 3 rfl) ?_
  refine lv_aload_n hx hb dL_law_1740 rfl (lv_at hl 4 rfl) ?_
  refine lv_iload hx hb dL_law_1741 (lv_at hl 0 rfl) ?_
  refine lv_iconst (v := 1) hx hb dL_law_1743 (by decide) ?_
  refine lv_iadd hx hb dL_law_1744 ?_
  refine va_sld hx hb hX hbl (Nat.not_le.mpr hbl) hS (w_in (k := 1) hi hL (by omega)) dL_law_1745 ?_
  refine lv_aload_n hx hb dL_law_1746 rfl (lv_at hl 4 rfl) ?_
  refine lv_iload hx hb dL_law_1747 (lv_at hl 0 rfl) ?_
  refine lv_iconst (v := 2) hx hb dL_law_1749 (by decide) ?_
  refine lv_iadd hx hb dL_law_1750 ?_
  refine va_sld hx hb hX hbl (Nat.not_le.mpr hbl) hS (w_in (k := 2) hi hL (by omega)) dL_law_1751 ?_
  refine lv_aload_n hx hb dL_law_1752 rfl (lv_at hl 4 rfl) ?_
  refine lv_iload hx hb dL_law_1753 (lv_at hl 0 rfl) ?_
  refine lv_iconst (v := 3) hx hb dL_law_1755 (by decide) ?_
  refine lv_iadd hx hb dL_law_1756 ?_
  refine va_sld hx hb hX hbl (Nat.not_le.mpr hbl) hS (w_in (k := 3) hi hL (by omega)) dL_law_1757 ?_
  refine lv_aload_n hx hb dL_law_1758 rfl (lv_at hl 1 rfl) ?_
  refine i_call (Wd := fun v9 : (BS × Int32) × (Nat → Int64) => ((fun z9 : BS × Int32 => bw qb cI z9.1 ++ kw qk qb qr qe qs qu qx qd cI z9.2)) v9.1 ++ lo cL ao v9.2) (w0 := bw qb cI bs ++ kw qk qb qr qe qs qu qx qd cI kk ++ lo cL ao o) (wo := sw qs cI s9 ++ uw qu cI cB u ++ aw qr cI tr ++ ew qe cI te ++ xw qx cI x ++ dw qd cI cO eA rd ++ mw qm cI mm) (vx_runSW (mc := 4) (ms := 24) (As := [.ref (qk 0), .int (xs (nI i + 1).toNatClampNeg), .int (xs (nI i + 2).toNatClampNeg), .int (xs (nI i + 3).toNatClampNeg), .ref ao]) (rest := []) ⟨hx, hb, hml, hown, hts⟩ (mL_part l hfl dC dI cI cB cO cL s.heap.size sT eA qb qk qr qe qs qu qx qd bs kk (xs (nI i + 1).toNatClampNeg) (xs (nI i + 2).toNatClampNeg) (xs (nI i + 3).toNatClampNeg) ao o H.size hS.1 (gC_T hG [0, 7, 9] rfl rfl) (gC_N hG [0, 7, 9] rfl rfl) kC hc9) (vx_cwSW 5 hts gW_L_part rfl rfl rfl (by decide +kernel) ⟨Nat.le_of_ble_eq_true rfl, Nat.le_of_ble_eq_true rfl⟩) ⟨lP_blind, lP_ok (A := xA s.heap.size) (va_P.app (va_P.app hb9 hk9) ho9) hK hF hC hS (fun q h => h)⟩ rfl rfl hl.1 rfl (lv_room (Nat.le_of_ble_eq_true rfl)) dL_law_1759 ⟨hcl, hsl⟩) (va_P.app (va_P.app (va_P.app (va_P.app (va_P.app (va_P.app hs9 hu9) hr9) he9) hx9) hd9) hm9) (gC_T hG [0, 7, 9, 1, 2, 3, 4, 5, 6, 8] rfl rfl) (fun q h => mem_vA h) (fun q h => mem_vA h) (gC_N hG [0, 7, 9] rfl rfl) hA hS (fun r9 v9 H locs hp hP hO hS => ?_)
  rw [e1, lF_eq] at hp
  obtain ⟨rfl, rfl⟩ := Prod.mk.inj hp
  have hm9 := va_P_suf hO
  have t329 := va_P_pre hO
  have hd9 := va_P_suf t329
  have t349 := va_P_pre t329
  have hx9 := va_P_suf t349
  have t369 := va_P_pre t349
  have he9 := va_P_suf t369
  have t389 := va_P_pre t369
  have hr9 := va_P_suf t389
  have t409 := va_P_pre t389
  have hu9 := va_P_suf t409
  have t429 := va_P_pre t409
  have hs9 := t429
  have hP : va_P (dC, dI) vwCl (bw qb cI bs ++ kw qk qb qr qe qs qu qx qd cI kk ++ lo cL ao (oN c1 r1 o)) H := hP
  have ho9 := va_P_suf hP
  have t469 := va_P_pre hP
  have hk9 := va_P_suf t469
  have t489 := va_P_pre t469
  have hb9 := t489
  refine lv_istore (lv' := [(5, .int (rcN 2 c1)), (4, .int (nI i)), (3, .ref ao), (2, .ref (qm 0)), (1, .ref (qk 0)), (0, .ref b)]) hx hb dL_law_1762 hl (by decide) rfl (fun ls hl => ?_)
  refine lv_aload_n hx hb dL_law_1764 rfl (lv_at hl 3 rfl) ?_
  refine lv_aload_n hx hb dL_law_1765 rfl (lv_at hl 5 rfl) ?_
  refine lv_iload hx hb dL_law_1766 (lv_at hl 1 rfl) ?_
  refine lv_iconst (v := 1) hx hb dL_law_1768 (by decide) ?_
  refine lv_iadd hx hb dL_law_1769 ?_
  refine va_sld hx hb hX hbl (Nat.not_le.mpr hbl) hS (w_in (k := 1) hi hL (by omega)) dL_law_1770 ?_
  refine lv_aload_n hx hb dL_law_1771 rfl (lv_at hl 5 rfl) ?_
  refine lv_iload hx hb dL_law_1772 (lv_at hl 1 rfl) ?_
  refine lv_iconst (v := 2) hx hb dL_law_1774 (by decide) ?_
  refine lv_iadd hx hb dL_law_1775 ?_
  refine va_sld hx hb hX hbl (Nat.not_le.mpr hbl) hS (w_in (k := 2) hi hL (by omega)) dL_law_1776 ?_
  refine lv_aload_n hx hb dL_law_1777 rfl (lv_at hl 5 rfl) ?_
  refine lv_iload hx hb dL_law_1778 (lv_at hl 1 rfl) ?_
  refine lv_iconst (v := 3) hx hb dL_law_1780 (by decide) ?_
  refine lv_iadd hx hb dL_law_1781 ?_
  refine va_sld hx hb hX hbl (Nat.not_le.mpr hbl) hS (w_in (k := 3) hi hL (by omega)) dL_law_1782 ?_
  refine i_call (Wd := fun m9 => mw qm cI m9) (w0 := mw qm cI mm) (wo := bw qb cI bs ++ sw qs cI s9 ++ uw qu cI cB u ++ aw qr cI tr ++ ew qe cI te ++ xw qx cI x ++ dw qd cI cO eA rd ++ kw qk qb qr qe qs qu qx qd cI kk ++ lo cL ao (oN c1 r1 o)) (va_runV (mc := 0) (ms := 0) (As := [.int (xs (nI i + 1).toNatClampNeg), .int (xs (nI i + 2).toNatClampNeg), .int (xs (nI i + 3).toNatClampNeg)]) (rest := []) ⟨hx, hb, hml, hown, hts⟩ (mX12_part l dC dI cI cB cO cL qm mm (xs (nI i + 1).toNatClampNeg) (xs (nI i + 2).toNatClampNeg) (xs (nI i + 3).toNatClampNeg) hIm kM) (cwV 3 hts gW_X12_part rfl rfl rfl (by decide +kernel) ⟨Nat.le_of_ble_eq_true rfl, Nat.le_of_ble_eq_true rfl⟩) ⟨gP_blind, va_recv hK hm9 (ci := 9) (q0 := 0) rfl rfl, gP_ok hm9 hK⟩ rfl rfl hl.1 rfl (lv_room (Nat.le_of_ble_eq_true rfl)) dL_law_1783 ⟨hcl0, hsl0⟩) (va_P.app (va_P.app (va_P.app (va_P.app (va_P.app (va_P.app (va_P.app (va_P.app hb9 hs9) hu9) hr9) he9) hx9) hd9) hk9) ho9) (gC_T hG [8, 0, 1, 2, 3, 4, 5, 6, 7, 9] rfl rfl) (fun q h => Or.inl (mem_wA h)) (fun q h => Or.inl (mem_wA h)) (gC_N hG [8] rfl rfl) hA hS (fun r2 m2 H locs hp2 hm9 hO hS => ?_)
  have hp2 : (r2, m2) = pX12_part mm (xs (nI i + 1).toNatClampNeg) (xs (nI i + 2).toNatClampNeg) (xs (nI i + 3).toNatClampNeg) := hp2
  have ho9 := va_P_suf hO
  have t709 := va_P_pre hO
  have hk9 := va_P_suf t709
  have t729 := va_P_pre t709
  have hd9 := va_P_suf t729
  have t749 := va_P_pre t729
  have hx9 := va_P_suf t749
  have t769 := va_P_pre t749
  have he9 := va_P_suf t769
  have t789 := va_P_pre t769
  have hr9 := va_P_suf t789
  have t809 := va_P_pre t789
  have hu9 := va_P_suf t809
  have t829 := va_P_pre t809
  have hs9 := va_P_suf t829
  have t849 := va_P_pre t829
  have hb9 := t849
  have e2 : r2 = (pX12_part mm (xs (nI i + 1).toNatClampNeg) (xs (nI i + 2).toNatClampNeg) (xs (nI i + 3).toNatClampNeg)).1 := by rw [← hp2]
  have e3 : m2 = (pX12_part mm (xs (nI i + 1).toNatClampNeg) (xs (nI i + 2).toNatClampNeg) (xs (nI i + 3).toNatClampNeg)).2 := by rw [← hp2]
  rw [← e3] at hR h3
  rw [← e2] at h4
  refine lv_istore (lv' := [(6, .int r2), (5, .int (rcN 2 c1)), (4, .int (nI i)), (3, .ref ao), (2, .ref (qm 0)), (1, .ref (qk 0)), (0, .ref b)]) hx hb dL_law_1786 hl (by decide) rfl (fun ls hl => ?_)
  refine lv_aload_n hx hb dL_law_1788 rfl (lv_at hl 4 rfl) ?_
  refine gro_i (va_runV (mc := 0) (ms := 0) (As := []) (rest := []) ⟨hx, hb, hml, hown, hts⟩ (mX12_thrown l dC dI cI cB cO cL qm m2) (cwV 0 hts gW_X12_thrown rfl rfl rfl (by decide +kernel) ⟨Nat.le_of_ble_eq_true rfl, Nat.le_of_ble_eq_true rfl⟩) ⟨gP_blind, va_recv hK hm9 (ci := 9) (q0 := 0) rfl rfl, gP_ok hm9 hK⟩ rfl rfl hl.1 rfl (lv_room (Nat.le_of_ble_eq_true rfl)) dL_law_1789 ⟨hcl0, hsl0⟩) ?_
  refine lv_iload hx hb dL_law_1792 (lv_at hl 1 rfl) ?_
  refine lv_icmp_eq (tgt := 1799) hx hb dL_law_1794 (by decide) (fun _ => ?_) (fun h9 => absurd (show pX12_thrown m2 = rcN 2 c1 from h3.trans hmp.symm) h9)
  refine lv_iload hx hb dL_law_1799 (lv_at hl 1 rfl) ?_
  refine lv_if_ne (tgt := 1816) hx hb dL_law_1801 (by decide) (fun _ => ?_) (fun h9 => ?_)
  · refine lv_goto (tgt := 1972) hx hb dL_law_1816 (by decide) ?_
    exact hgo bs s9 u tr te x rd kk m2 ((oN c1 r1 o)) _ _ _ ⟨hb9, hs9, hu9, hr9, he9, hx9, hd9, hk9, hm9, ho9⟩ hR hS (lv_sub hl [2, 3, 4, 5, 6] rfl)
  · refine lv_aload_n hx hb dL_law_1804 rfl (lv_at hl 3 rfl) ?_
    refine lv_iconst (v := 0) hx hb dL_law_1805 (by decide) ?_
    refine va_lald (D := (dC, dI)) (tys := tYS cI cB cO cL) hx hb hK ho9 0 3 rfl rfl (vp_in_n (i := 0) (by omega) (by omega)) dL_law_1806 ?_
    refine lv_iload hx hb dL_law_1807 (lv_at hl 0 rfl) ?_
    refine lv_i2l hx hb dL_law_1809 rfl ?_
    refine W.lcmp hx hb dL_law_1810 ?_
    refine lv_if_eq (tgt := 1816) hx hb dL_law_1811 (by decide) (fun _ => ?_) (fun h8 => absurd ((lg_cmp_eq _ _).mpr ?_) h8)
    · refine lv_goto (tgt := 1972) hx hb dL_law_1816 (by decide) ?_
      exact hgo bs s9 u tr te x rd kk m2 ((oN c1 r1 o)) _ _ _ ⟨hb9, hs9, hu9, hr9, he9, hx9, hd9, hk9, hm9, ho9⟩ hR hS (lv_sub hl [2, 3, 4, 5, 6] rfl)
    · have h7 := rcN_0 h9
      show oN c1 r1 o 0 = r2.toInt64
      rw [oN_0 h7, h4 h7]
set_option maxHeartbeats 4000000 in
set_option maxRecDepth 100000 in
theorem w_type (p : Program) (l : Launch) (e : Env) (s : State) (m : MethodId) (below : List Frame) (meth : Method) (c : Code) (b L : Nat) (xs : Nat → Int32) (dC : Nat → ClassId) (dI : Nat → Nat → Nat) (cI cB cO cL : ClassId) (sT eA qb qs qu qr qe qx qd qk qm : Nat → Nat) (ao : Nat) (hLS : LStart p l s m meth c b L xs (dC, dI) cI cB cO cL sT eA qb qs qu qr qe qx qd qk qm ao) (i : Nat) (hi : i + 6 ≤ L) (bs : BS) (s9 : SS) (u : US) (tr te x : TS) (rd : RS) (kk : Int32) (mm : MS) (o : Nat → Int64) (H : Heap) (locs : List Loc) (ls : Array Slot) (cells slots : Nat) (hcl : cells + 4 ≤ 601024) (hsl : slots + 24 ≤ 7293034) (hI : LI (dC, dI) cI cB cO cL eA qb qs qu qr qe qx qd qk qm ao bs s9 u tr te x rd kk mm o H) (hR : SR bs s9 u x kk mm) (hS : va_S (xA s.heap.size) s.heap H locs) (hl : lv_has ls 9 (lvL b ao qm qk i)) (hgo : LGo p l e s m below meth c b (dC, dI) cI cB cO cL eA qb qs qu qr qe qx qd qk qm ao i (cells + 4) (slots + 24)) : W p l e room_1 s m #[Value.ref b] below meth c H locs cells slots (lw_Z below #[Value.ref b] s) (F0 m 1819 ls []) := by
  obtain ⟨hfl, ⟨hx, hb, hr, hml, hown, hts, hlocks⟩, hK, hF, hC, hX, hbl, hL, hG⟩ := hLS
  obtain ⟨hb9, hs9, hu9, hr9, he9, hx9, hd9, hk9, hm9, ho9⟩ := hI
  have hA : ∀ q : Nat, s.heap.size ≤ q → xA s.heap.size q := fun q h => h
  have hIm : gD (fun _ => True) (mAd qm) := gC_T hG [8] rfl rfl
  obtain ⟨c1, r1, x1, e1, kC, kM, hR, ⟨h3, h4⟩, -⟩ := type_op hR (xs (nI i + 1).toNatClampNeg)
  have hc9 := cod_type (P := fun z => z = 0 ∨ z = 2 ∨ z = 3) x kk (xs (nI i + 1).toNatClampNeg) (by decide) (by decide) (by decide)
  have hmp := cod_type (P := fun z => rcN 2 z = mpA z) x kk (xs (nI i + 1).toNatClampNeg) (by decide) (by decide) (by decide)
  rw [e1] at hmp
  have hmp : rcN 2 c1 = mpA c1 := hmp
  have hcl0 : cells + 4 + 0 ≤ 601024 := hcl
  have hsl0 : slots + 24 + 0 ≤ 7293034 := hsl
  refine lv_aload_n hx hb dL_law_1819 rfl (lv_at hl 3 rfl) ?_
  refine lv_aload_n hx hb dL_law_1820 rfl (lv_at hl 4 rfl) ?_
  refine lv_iload hx hb dL_law_1821 (lv_at hl 0 rfl) ?_
  refine lv_iconst (v := 1) hx hb dL_law_1823 (by decide) ?_
  refine lv_iadd hx hb dL_law_1824 ?_
  refine va_sld hx hb hX hbl (Nat.not_le.mpr hbl) hS (w_in (k := 1) hi hL (by omega)) dL_law_1825 ?_
  refine lv_aload_n hx hb dL_law_1826 rfl (lv_at hl 1 rfl) ?_
  refine i_call (Wd := fun v9 : (TS × Int32) × (Nat → Int64) => ((fun z9 : TS × Int32 => xw qx cI z9.1 ++ kw qk qb qr qe qs qu qx qd cI z9.2)) v9.1 ++ lo cL ao v9.2) (w0 := xw qx cI x ++ kw qk qb qr qe qs qu qx qd cI kk ++ lo cL ao o) (wo := bw qb cI bs ++ sw qs cI s9 ++ uw qu cI cB u ++ aw qr cI tr ++ ew qe cI te ++ dw qd cI cO eA rd ++ mw qm cI mm) (vx_runSW (mc := 4) (ms := 24) (As := [.ref (qk 0), .int (xs (nI i + 1).toNatClampNeg), .ref ao]) (rest := []) ⟨hx, hb, hml, hown, hts⟩ (mL_type l hfl dC dI cI cB cO cL s.heap.size sT eA qx qk qb qr qe qs qu qd x kk (xs (nI i + 1).toNatClampNeg) ao o H.size hS.1 (gC_T hG [5, 7, 9] rfl rfl) (gC_N hG [5, 7, 9] rfl rfl) kC hc9) (vx_cwSW 3 hts gW_L_type rfl rfl rfl (by decide +kernel) ⟨Nat.le_of_ble_eq_true rfl, Nat.le_of_ble_eq_true rfl⟩) ⟨lP_blind, lP_ok (A := xA s.heap.size) (va_P.app (va_P.app hx9 hk9) ho9) hK hF hC hS (fun q h => h)⟩ rfl rfl hl.1 rfl (lv_room (Nat.le_of_ble_eq_true rfl)) dL_law_1827 ⟨hcl, hsl⟩) (va_P.app (va_P.app (va_P.app (va_P.app (va_P.app (va_P.app hb9 hs9) hu9) hr9) he9) hd9) hm9) (gC_T hG [5, 7, 9, 0, 1, 2, 3, 4, 6, 8] rfl rfl) (fun q h => mem_vA h) (fun q h => mem_vA h) (gC_N hG [5, 7, 9] rfl rfl) hA hS (fun r9 v9 H locs hp hP hO hS => ?_)
  rw [e1, lF_eq] at hp
  obtain ⟨rfl, rfl⟩ := Prod.mk.inj hp
  have hm9 := va_P_suf hO
  have t229 := va_P_pre hO
  have hd9 := va_P_suf t229
  have t249 := va_P_pre t229
  have he9 := va_P_suf t249
  have t269 := va_P_pre t249
  have hr9 := va_P_suf t269
  have t289 := va_P_pre t269
  have hu9 := va_P_suf t289
  have t309 := va_P_pre t289
  have hs9 := va_P_suf t309
  have t329 := va_P_pre t309
  have hb9 := t329
  have hP : va_P (dC, dI) vwCl (xw qx cI x1 ++ kw qk qb qr qe qs qu qx qd cI kk ++ lo cL ao (oN c1 r1 o)) H := hP
  have ho9 := va_P_suf hP
  have t369 := va_P_pre hP
  have hk9 := va_P_suf t369
  have t389 := va_P_pre t369
  have hx9 := t389
  refine lv_istore (lv' := [(5, .int (rcN 2 c1)), (4, .int (nI i)), (3, .ref ao), (2, .ref (qm 0)), (1, .ref (qk 0)), (0, .ref b)]) hx hb dL_law_1830 hl (by decide) rfl (fun ls hl => ?_)
  refine lv_aload_n hx hb dL_law_1832 rfl (lv_at hl 3 rfl) ?_
  refine lv_aload_n hx hb dL_law_1833 rfl (lv_at hl 5 rfl) ?_
  refine lv_iload hx hb dL_law_1834 (lv_at hl 1 rfl) ?_
  refine lv_iconst (v := 1) hx hb dL_law_1836 (by decide) ?_
  refine lv_iadd hx hb dL_law_1837 ?_
  refine va_sld hx hb hX hbl (Nat.not_le.mpr hbl) hS (w_in (k := 1) hi hL (by omega)) dL_law_1838 ?_
  refine i_call (Wd := fun m9 => mw qm cI m9) (w0 := mw qm cI mm) (wo := bw qb cI bs ++ sw qs cI s9 ++ uw qu cI cB u ++ aw qr cI tr ++ ew qe cI te ++ xw qx cI x1 ++ dw qd cI cO eA rd ++ kw qk qb qr qe qs qu qx qd cI kk ++ lo cL ao (oN c1 r1 o)) (va_runV (mc := 0) (ms := 0) (As := [.int (xs (nI i + 1).toNatClampNeg)]) (rest := []) ⟨hx, hb, hml, hown, hts⟩ (mX12_type l dC dI cI cB cO cL qm mm (xs (nI i + 1).toNatClampNeg) hIm kM) (cwV 1 hts gW_X12_type rfl rfl rfl (by decide +kernel) ⟨Nat.le_of_ble_eq_true rfl, Nat.le_of_ble_eq_true rfl⟩) ⟨gP_blind, va_recv hK hm9 (ci := 9) (q0 := 0) rfl rfl, gP_ok hm9 hK⟩ rfl rfl hl.1 rfl (lv_room (Nat.le_of_ble_eq_true rfl)) dL_law_1839 ⟨hcl0, hsl0⟩) (va_P.app (va_P.app (va_P.app (va_P.app (va_P.app (va_P.app (va_P.app (va_P.app hb9 hs9) hu9) hr9) he9) hx9) hd9) hk9) ho9) (gC_T hG [8, 0, 1, 2, 3, 4, 5, 6, 7, 9] rfl rfl) (fun q h => Or.inl (mem_wA h)) (fun q h => Or.inl (mem_wA h)) (gC_N hG [8] rfl rfl) hA hS (fun r2 m2 H locs hp2 hm9 hO hS => ?_)
  have hp2 : (r2, m2) = pX12_type mm (xs (nI i + 1).toNatClampNeg) := hp2
  have ho9 := va_P_suf hO
  have t509 := va_P_pre hO
  have hk9 := va_P_suf t509
  have t529 := va_P_pre t509
  have hd9 := va_P_suf t529
  have t549 := va_P_pre t529
  have hx9 := va_P_suf t549
  have t569 := va_P_pre t549
  have he9 := va_P_suf t569
  have t589 := va_P_pre t569
  have hr9 := va_P_suf t589
  have t609 := va_P_pre t589
  have hu9 := va_P_suf t609
  have t629 := va_P_pre t609
  have hs9 := va_P_suf t629
  have t649 := va_P_pre t629
  have hb9 := t649
  have e2 : r2 = (pX12_type mm (xs (nI i + 1).toNatClampNeg)).1 := by rw [← hp2]
  have e3 : m2 = (pX12_type mm (xs (nI i + 1).toNatClampNeg)).2 := by rw [← hp2]
  rw [← e3] at hR h3
  rw [← e2] at h4
  refine lv_istore (lv' := [(6, .int r2), (5, .int (rcN 2 c1)), (4, .int (nI i)), (3, .ref ao), (2, .ref (qm 0)), (1, .ref (qk 0)), (0, .ref b)]) hx hb dL_law_1842 hl (by decide) rfl (fun ls hl => ?_)
  refine lv_aload_n hx hb dL_law_1844 rfl (lv_at hl 4 rfl) ?_
  refine gro_i (va_runV (mc := 0) (ms := 0) (As := []) (rest := []) ⟨hx, hb, hml, hown, hts⟩ (mX12_thrown l dC dI cI cB cO cL qm m2) (cwV 0 hts gW_X12_thrown rfl rfl rfl (by decide +kernel) ⟨Nat.le_of_ble_eq_true rfl, Nat.le_of_ble_eq_true rfl⟩) ⟨gP_blind, va_recv hK hm9 (ci := 9) (q0 := 0) rfl rfl, gP_ok hm9 hK⟩ rfl rfl hl.1 rfl (lv_room (Nat.le_of_ble_eq_true rfl)) dL_law_1845 ⟨hcl0, hsl0⟩) ?_
  refine lv_iload hx hb dL_law_1848 (lv_at hl 1 rfl) ?_
  refine lv_icmp_eq (tgt := 1855) hx hb dL_law_1850 (by decide) (fun _ => ?_) (fun h9 => absurd (show pX12_thrown m2 = rcN 2 c1 from h3.trans hmp.symm) h9)
  refine lv_iload hx hb dL_law_1855 (lv_at hl 1 rfl) ?_
  refine lv_if_ne (tgt := 1872) hx hb dL_law_1857 (by decide) (fun _ => ?_) (fun h9 => ?_)
  · refine lv_goto (tgt := 1972) hx hb dL_law_1872 (by decide) ?_
    exact hgo bs s9 u tr te x1 rd kk m2 ((oN c1 r1 o)) _ _ _ ⟨hb9, hs9, hu9, hr9, he9, hx9, hd9, hk9, hm9, ho9⟩ hR hS (lv_sub hl [2, 3, 4, 5, 6] rfl)
  · refine lv_aload_n hx hb dL_law_1860 rfl (lv_at hl 3 rfl) ?_
    refine lv_iconst (v := 0) hx hb dL_law_1861 (by decide) ?_
    refine va_lald (D := (dC, dI)) (tys := tYS cI cB cO cL) hx hb hK ho9 0 3 rfl rfl (vp_in_n (i := 0) (by omega) (by omega)) dL_law_1862 ?_
    refine lv_iload hx hb dL_law_1863 (lv_at hl 0 rfl) ?_
    refine lv_i2l hx hb dL_law_1865 rfl ?_
    refine W.lcmp hx hb dL_law_1866 ?_
    refine lv_if_eq (tgt := 1872) hx hb dL_law_1867 (by decide) (fun _ => ?_) (fun h8 => absurd ((lg_cmp_eq _ _).mpr ?_) h8)
    · refine lv_goto (tgt := 1972) hx hb dL_law_1872 (by decide) ?_
      exact hgo bs s9 u tr te x1 rd kk m2 ((oN c1 r1 o)) _ _ _ ⟨hb9, hs9, hu9, hr9, he9, hx9, hd9, hk9, hm9, ho9⟩ hR hS (lv_sub hl [2, 3, 4, 5, 6] rfl)
    · have h7 := rcN_0 h9
      show oN c1 r1 o 0 = r2.toInt64
      rw [oN_0 h7, h4 h7]
set_option maxHeartbeats 4000000 in
set_option maxRecDepth 100000 in
theorem w_undo (p : Program) (l : Launch) (e : Env) (s : State) (m : MethodId) (below : List Frame) (meth : Method) (c : Code) (b L : Nat) (xs : Nat → Int32) (dC : Nat → ClassId) (dI : Nat → Nat → Nat) (cI cB cO cL : ClassId) (sT eA qb qs qu qr qe qx qd qk qm : Nat → Nat) (ao : Nat) (hLS : LStart p l s m meth c b L xs (dC, dI) cI cB cO cL sT eA qb qs qu qr qe qx qd qk qm ao) (i : Nat) (hi : i + 6 ≤ L) (bs : BS) (s9 : SS) (u : US) (tr te x : TS) (rd : RS) (kk : Int32) (mm : MS) (o : Nat → Int64) (H : Heap) (locs : List Loc) (ls : Array Slot) (cells slots : Nat) (hcl : cells + 4 ≤ 601024) (hsl : slots + 24 ≤ 7293034) (hI : LI (dC, dI) cI cB cO cL eA qb qs qu qr qe qx qd qk qm ao bs s9 u tr te x rd kk mm o H) (hR : SR bs s9 u x kk mm) (hS : va_S (xA s.heap.size) s.heap H locs) (hl : lv_has ls 9 (lvL b ao qm qk i)) (hgo : LGo p l e s m below meth c b (dC, dI) cI cB cO cL eA qb qs qu qr qe qx qd qk qm ao i (cells + 4) (slots + 24)) : W p l e room_1 s m #[Value.ref b] below meth c H locs cells slots (lw_Z below #[Value.ref b] s) (F0 m 1914 ls []) := by
  obtain ⟨hfl, ⟨hx, hb, hr, hml, hown, hts, hlocks⟩, hK, hF, hC, hX, hbl, hL, hG⟩ := hLS
  obtain ⟨hb9, hs9, hu9, hr9, he9, hx9, hd9, hk9, hm9, ho9⟩ := hI
  have hA : ∀ q : Nat, s.heap.size ≤ q → xA s.heap.size q := fun q h => h
  have hIm : gD (fun _ => True) (mAd qm) := gC_T hG [8] rfl rfl
  obtain ⟨c1, r1, b1, s1, u1, e1, kC, kM, hR, h3, h4, -⟩ := undo_op hR
  have hc9 := cod_undo (P := fun z => z = 0 ∨ z = 3) s9 u bs kk (by decide) (by decide)
  have hmp := cod_undo (P := fun z => rcN 3 z = (fun z : Nat => if z = 0 then (0 : Int32) else 1) z) s9 u bs kk (by decide) (by decide)
  rw [e1] at hmp
  have hmp : rcN 3 c1 = (fun z : Nat => if z = 0 then (0 : Int32) else 1) c1 := hmp
  have hcl0 : cells + 4 + 0 ≤ 601024 := hcl
  have hsl0 : slots + 24 + 0 ≤ 7293034 := hsl
  refine lv_aload_n hx hb dL_law_1914 rfl (lv_at hl 3 rfl) ?_
  refine lv_aload_n hx hb dL_law_1915 rfl (lv_at hl 1 rfl) ?_
  refine i_call (Wd := fun v9 : (SS × US × BS × Int32) × (Nat → Int64) => ((fun z9 : SS × US × BS × Int32 => sw qs cI z9.1 ++ uw qu cI cB z9.2.1 ++ bw qb cI z9.2.2.1 ++ kw qk qb qr qe qs qu qx qd cI z9.2.2.2)) v9.1 ++ lo cL ao v9.2) (w0 := sw qs cI s9 ++ uw qu cI cB u ++ bw qb cI bs ++ kw qk qb qr qe qs qu qx qd cI kk ++ lo cL ao o) (wo := aw qr cI tr ++ ew qe cI te ++ xw qx cI x ++ dw qd cI cO eA rd ++ mw qm cI mm) (vx_runSW (mc := 4) (ms := 24) (As := [.ref (qk 0), .ref ao]) (rest := []) ⟨hx, hb, hml, hown, hts⟩ (mL_undo l hfl dC dI cI cB cO cL s.heap.size sT eA qs qu qb qk qr qe qx qd s9 u bs kk ao o H.size hS.1 (gC_T hG [1, 2, 0, 7, 9] rfl rfl) (gC_N hG [1, 2, 0, 7, 9] rfl rfl) kC hc9) (vx_cwSW 2 hts gW_L_undo rfl rfl rfl (by decide +kernel) ⟨Nat.le_of_ble_eq_true rfl, Nat.le_of_ble_eq_true rfl⟩) ⟨lP_blind, lP_ok (A := xA s.heap.size) (va_P.app (va_P.app (va_P.app (va_P.app hs9 hu9) hb9) hk9) ho9) hK hF hC hS (fun q h => h)⟩ rfl rfl hl.1 rfl (lv_room (Nat.le_of_ble_eq_true rfl)) dL_law_1916 ⟨hcl, hsl⟩) (va_P.app (va_P.app (va_P.app (va_P.app hr9 he9) hx9) hd9) hm9) (gC_T hG [1, 2, 0, 7, 9, 3, 4, 5, 6, 8] rfl rfl) (fun q h => mem_vA h) (fun q h => mem_vA h) (gC_N hG [1, 2, 0, 7, 9] rfl rfl) hA hS (fun r9 v9 H locs hp hP hO hS => ?_)
  rw [e1, lF_eq] at hp
  obtain ⟨rfl, rfl⟩ := Prod.mk.inj hp
  have hm9 := va_P_suf hO
  have t179 := va_P_pre hO
  have hd9 := va_P_suf t179
  have t199 := va_P_pre t179
  have hx9 := va_P_suf t199
  have t219 := va_P_pre t199
  have he9 := va_P_suf t219
  have t239 := va_P_pre t219
  have hr9 := t239
  have hP : va_P (dC, dI) vwCl (sw qs cI s1 ++ uw qu cI cB u1 ++ bw qb cI b1 ++ kw qk qb qr qe qs qu qx qd cI kk ++ lo cL ao (oN c1 r1 o)) H := hP
  have ho9 := va_P_suf hP
  have t279 := va_P_pre hP
  have hk9 := va_P_suf t279
  have t299 := va_P_pre t279
  have hb9 := va_P_suf t299
  have t319 := va_P_pre t299
  have hu9 := va_P_suf t319
  have t339 := va_P_pre t319
  have hs9 := t339
  refine lv_istore (lv' := [(5, .int (rcN 3 c1)), (4, .int (nI i)), (3, .ref ao), (2, .ref (qm 0)), (1, .ref (qk 0)), (0, .ref b)]) hx hb dL_law_1919 hl (by decide) rfl (fun ls hl => ?_)
  refine lv_aload_n hx hb dL_law_1921 rfl (lv_at hl 3 rfl) ?_
  refine i_call (Wd := fun m9 => mw qm cI m9) (w0 := mw qm cI mm) (wo := bw qb cI b1 ++ sw qs cI s1 ++ uw qu cI cB u1 ++ aw qr cI tr ++ ew qe cI te ++ xw qx cI x ++ dw qd cI cO eA rd ++ kw qk qb qr qe qs qu qx qd cI kk ++ lo cL ao (oN c1 r1 o)) (va_runV (mc := 0) (ms := 0) (As := []) (rest := []) ⟨hx, hb, hml, hown, hts⟩ (mX12_undo l dC dI cI cB cO cL qm mm hIm kM) (cwV 0 hts gW_X12_undo rfl rfl rfl (by decide +kernel) ⟨Nat.le_of_ble_eq_true rfl, Nat.le_of_ble_eq_true rfl⟩) ⟨gP_blind, va_recv hK hm9 (ci := 9) (q0 := 0) rfl rfl, gP_ok hm9 hK⟩ rfl rfl hl.1 rfl (lv_room (Nat.le_of_ble_eq_true rfl)) dL_law_1922 ⟨hcl0, hsl0⟩) (va_P.app (va_P.app (va_P.app (va_P.app (va_P.app (va_P.app (va_P.app (va_P.app hb9 hs9) hu9) hr9) he9) hx9) hd9) hk9) ho9) (gC_T hG [8, 0, 1, 2, 3, 4, 5, 6, 7, 9] rfl rfl) (fun q h => Or.inl (mem_wA h)) (fun q h => Or.inl (mem_wA h)) (gC_N hG [8] rfl rfl) hA hS (fun r2 m2 H locs hp2 hm9 hO hS => ?_)
  have hp2 : (r2, m2) = pX12_undo mm := hp2
  have ho9 := va_P_suf hO
  have t409 := va_P_pre hO
  have hk9 := va_P_suf t409
  have t429 := va_P_pre t409
  have hd9 := va_P_suf t429
  have t449 := va_P_pre t429
  have hx9 := va_P_suf t449
  have t469 := va_P_pre t449
  have he9 := va_P_suf t469
  have t489 := va_P_pre t469
  have hr9 := va_P_suf t489
  have t509 := va_P_pre t489
  have hu9 := va_P_suf t509
  have t529 := va_P_pre t509
  have hs9 := va_P_suf t529
  have t549 := va_P_pre t529
  have hb9 := t549
  have e2 : r2 = (pX12_undo mm).1 := by rw [← hp2]
  have e3 : m2 = (pX12_undo mm).2 := by rw [← hp2]
  rw [← e3] at hR h3
  rw [← e2] at h4
  refine lv_istore (lv' := [(6, .int r2), (5, .int (rcN 3 c1)), (4, .int (nI i)), (3, .ref ao), (2, .ref (qm 0)), (1, .ref (qk 0)), (0, .ref b)]) hx hb dL_law_1925 hl (by decide) rfl (fun ls hl => ?_)
  refine lv_aload_n hx hb dL_law_1927 rfl (lv_at hl 4 rfl) ?_
  refine gro_i (va_runV (mc := 0) (ms := 0) (As := []) (rest := []) ⟨hx, hb, hml, hown, hts⟩ (mX12_thrown l dC dI cI cB cO cL qm m2) (cwV 0 hts gW_X12_thrown rfl rfl rfl (by decide +kernel) ⟨Nat.le_of_ble_eq_true rfl, Nat.le_of_ble_eq_true rfl⟩) ⟨gP_blind, va_recv hK hm9 (ci := 9) (q0 := 0) rfl rfl, gP_ok hm9 hK⟩ rfl rfl hl.1 rfl (lv_room (Nat.le_of_ble_eq_true rfl)) dL_law_1928 ⟨hcl0, hsl0⟩) ?_
  refine lv_iload hx hb dL_law_1931 (lv_at hl 1 rfl) ?_
  refine lv_icmp_eq (tgt := 1938) hx hb dL_law_1933 (by decide) (fun _ => ?_) (fun h9 => absurd (show pX12_thrown m2 = rcN 3 c1 from h3.trans hmp.symm) h9)
  refine lv_iload hx hb dL_law_1938 (lv_at hl 1 rfl) ?_
  refine lv_if_ne (tgt := 1955) hx hb dL_law_1940 (by decide) (fun _ => ?_) (fun h9 => ?_)
  · refine lv_goto (tgt := 1972) hx hb dL_law_1955 (by decide) ?_
    exact hgo b1 s1 u1 tr te x rd kk m2 ((oN c1 r1 o)) _ _ _ ⟨hb9, hs9, hu9, hr9, he9, hx9, hd9, hk9, hm9, ho9⟩ hR hS (lv_sub hl [2, 3, 4, 5, 6] rfl)
  · refine lv_aload_n hx hb dL_law_1943 rfl (lv_at hl 3 rfl) ?_
    refine lv_iconst (v := 0) hx hb dL_law_1944 (by decide) ?_
    refine va_lald (D := (dC, dI)) (tys := tYS cI cB cO cL) hx hb hK ho9 0 3 rfl rfl (vp_in_n (i := 0) (by omega) (by omega)) dL_law_1945 ?_
    refine lv_iload hx hb dL_law_1946 (lv_at hl 0 rfl) ?_
    refine lv_i2l hx hb dL_law_1948 rfl ?_
    refine W.lcmp hx hb dL_law_1949 ?_
    refine lv_if_eq (tgt := 1955) hx hb dL_law_1950 (by decide) (fun _ => ?_) (fun h8 => absurd ((lg_cmp_eq _ _).mpr ?_) h8)
    · refine lv_goto (tgt := 1972) hx hb dL_law_1955 (by decide) ?_
      exact hgo b1 s1 u1 tr te x rd kk m2 ((oN c1 r1 o)) _ _ _ ⟨hb9, hs9, hu9, hr9, he9, hx9, hd9, hk9, hm9, ho9⟩ hR hS (lv_sub hl [2, 3, 4, 5, 6] rfl)
    · have h7 := rcN_0 h9
      show oN c1 r1 o 0 = r2.toInt64
      rw [oN_0 h7, h4 h7]
end CASES3
