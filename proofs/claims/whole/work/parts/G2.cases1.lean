/-! THE LAW: cases of its loop (1) -/
section CASES1
set_option maxHeartbeats 4000000 in
set_option maxRecDepth 100000 in
theorem w_set (p : Program) (l : Launch) (e : Env) (s : State) (m : MethodId) (below : List Frame) (meth : Method) (c : Code) (b L : Nat) (xs : Nat → Int32) (dC : Nat → ClassId) (dI : Nat → Nat → Nat) (cI cB cO cL : ClassId) (sT eA qb qs qu qr qe qx qd qk qm : Nat → Nat) (ao : Nat) (hLS : LStart p l s m meth c b L xs (dC, dI) cI cB cO cL sT eA qb qs qu qr qe qx qd qk qm ao) (i : Nat) (hi : i + 6 ≤ L) (bs : BS) (s9 : SS) (u : US) (tr te x : TS) (rd : RS) (kk : Int32) (mm : MS) (o : Nat → Int64) (H : Heap) (locs : List Loc) (ls : Array Slot) (cells slots : Nat) (hcl : cells + 4 ≤ 601024) (hsl : slots + 24 ≤ 7293034) (hI : LI (dC, dI) cI cB cO cL eA qb qs qu qr qe qx qd qk qm ao bs s9 u tr te x rd kk mm o H) (hR : SR bs s9 u x kk mm) (hS : va_S (xA s.heap.size) s.heap H locs) (hl : lv_has ls 9 (lvL b ao qm qk i)) (hgo : LGo p l e s m below meth c b (dC, dI) cI cB cO cL eA qb qs qu qr qe qx qd qk qm ao i (cells + 4) (slots + 24)) : W p l e room_1 s m #[Value.ref b] below meth c H locs cells slots (lw_Z below #[Value.ref b] s) (F0 m 624 ls []) := by
  obtain ⟨hfl, ⟨hx, hb, hr, hml, hown, hts, hlocks⟩, hK, hF, hC, hX, hbl, hL, hG⟩ := hLS
  obtain ⟨hb9, hs9, hu9, hr9, he9, hx9, hd9, hk9, hm9, ho9⟩ := hI
  have hA : ∀ q : Nat, s.heap.size ≤ q → xA s.heap.size q := fun q h => h
  have hIm : gD (fun _ => True) (mAd qm) := gC_T hG [8] rfl rfl
  obtain ⟨c1, r1, b1, s1, u1, e1, kC, kM, hR, ⟨h3, h4⟩, -⟩ := set_op hR (xs (nI i + 1).toNatClampNeg) (xs (nI i + 2).toNatClampNeg)
  have hc9 := cod_set (P := fun z => z = 0 ∨ z = 2) bs s9 u kk (xs (nI i + 1).toNatClampNeg) (xs (nI i + 2).toNatClampNeg) (by decide) (by decide)
  have hmp := cod_set (P := fun z => rcN 2 z = mpA z) bs s9 u kk (xs (nI i + 1).toNatClampNeg) (xs (nI i + 2).toNatClampNeg) (by decide) (by decide)
  rw [e1] at hmp
  have hmp : rcN 2 c1 = mpA c1 := hmp
  have hcl0 : cells + 4 + 0 ≤ 601024 := hcl
  have hsl0 : slots + 24 + 0 ≤ 7293034 := hsl
  refine lv_aload_n hx hb dL_law_624 rfl (lv_at hl 3 rfl) ?_
  refine lv_aload_n hx hb dL_law_625 rfl (lv_at hl 4 rfl) ?_
  refine lv_iload hx hb dL_law_626 (lv_at hl 0 rfl) ?_
  refine lv_iconst (v := 1) hx hb dL_law_628 (by decide) ?_
  refine lv_iadd hx hb dL_law_629 ?_
  refine va_sld hx hb hX hbl (Nat.not_le.mpr hbl) hS (w_in (k := 1) hi hL (by omega)) dL_law_630 ?_
  refine lv_aload_n hx hb dL_law_631 rfl (lv_at hl 4 rfl) ?_
  refine lv_iload hx hb dL_law_632 (lv_at hl 0 rfl) ?_
  refine lv_iconst (v := 2) hx hb dL_law_634 (by decide) ?_
  refine lv_iadd hx hb dL_law_635 ?_
  refine va_sld hx hb hX hbl (Nat.not_le.mpr hbl) hS (w_in (k := 2) hi hL (by omega)) dL_law_636 ?_
  refine lv_aload_n hx hb dL_law_637 rfl (lv_at hl 1 rfl) ?_
  refine i_call (Wd := fun v9 : (BS × SS × US × Int32) × (Nat → Int64) => ((fun z9 : BS × SS × US × Int32 => bw qb cI z9.1 ++ sw qs cI z9.2.1 ++ uw qu cI cB z9.2.2.1 ++ kw qk qb qr qe qs qu qx qd cI z9.2.2.2)) v9.1 ++ lo cL ao v9.2) (w0 := bw qb cI bs ++ sw qs cI s9 ++ uw qu cI cB u ++ kw qk qb qr qe qs qu qx qd cI kk ++ lo cL ao o) (wo := aw qr cI tr ++ ew qe cI te ++ xw qx cI x ++ dw qd cI cO eA rd ++ mw qm cI mm) (vx_runSW (mc := 4) (ms := 24) (As := [.ref (qk 0), .int (xs (nI i + 1).toNatClampNeg), .int (xs (nI i + 2).toNatClampNeg), .ref ao]) (rest := []) ⟨hx, hb, hml, hown, hts⟩ (mL_set l hfl dC dI cI cB cO cL s.heap.size sT eA qb qs qu qk qr qe qx qd bs s9 u kk (xs (nI i + 1).toNatClampNeg) (xs (nI i + 2).toNatClampNeg) ao o H.size hS.1 (gC_T hG [0, 1, 2, 7, 9] rfl rfl) (gC_N hG [0, 1, 2, 7, 9] rfl rfl) kC hc9) (vx_cwSW 4 hts gW_L_set rfl rfl rfl (by decide +kernel) ⟨Nat.le_of_ble_eq_true rfl, Nat.le_of_ble_eq_true rfl⟩) ⟨lP_blind, lP_ok (A := xA s.heap.size) (va_P.app (va_P.app (va_P.app (va_P.app hb9 hs9) hu9) hk9) ho9) hK hF hC hS (fun q h => h)⟩ rfl rfl hl.1 rfl (lv_room (Nat.le_of_ble_eq_true rfl)) dL_law_638 ⟨hcl, hsl⟩) (va_P.app (va_P.app (va_P.app (va_P.app hr9 he9) hx9) hd9) hm9) (gC_T hG [0, 1, 2, 7, 9, 3, 4, 5, 6, 8] rfl rfl) (fun q h => mem_vA h) (fun q h => mem_vA h) (gC_N hG [0, 1, 2, 7, 9] rfl rfl) hA hS (fun r9 v9 H locs hp hP hO hS => ?_)
  rw [e1, lF_eq] at hp
  obtain ⟨rfl, rfl⟩ := Prod.mk.inj hp
  have hm9 := va_P_suf hO
  have t279 := va_P_pre hO
  have hd9 := va_P_suf t279
  have t299 := va_P_pre t279
  have hx9 := va_P_suf t299
  have t319 := va_P_pre t299
  have he9 := va_P_suf t319
  have t339 := va_P_pre t319
  have hr9 := t339
  have hP : va_P (dC, dI) vwCl (bw qb cI b1 ++ sw qs cI s1 ++ uw qu cI cB u1 ++ kw qk qb qr qe qs qu qx qd cI kk ++ lo cL ao (oN c1 r1 o)) H := hP
  have ho9 := va_P_suf hP
  have t379 := va_P_pre hP
  have hk9 := va_P_suf t379
  have t399 := va_P_pre t379
  have hu9 := va_P_suf t399
  have t419 := va_P_pre t399
  have hs9 := va_P_suf t419
  have t439 := va_P_pre t419
  have hb9 := t439
  refine lv_istore (lv' := [(5, .int (rcN 2 c1)), (4, .int (nI i)), (3, .ref ao), (2, .ref (qm 0)), (1, .ref (qk 0)), (0, .ref b)]) hx hb dL_law_641 hl (by decide) rfl (fun ls hl => ?_)
  refine lv_aload_n hx hb dL_law_643 rfl (lv_at hl 3 rfl) ?_
  refine lv_aload_n hx hb dL_law_644 rfl (lv_at hl 5 rfl) ?_
  refine lv_iload hx hb dL_law_645 (lv_at hl 1 rfl) ?_
  refine lv_iconst (v := 1) hx hb dL_law_647 (by decide) ?_
  refine lv_iadd hx hb dL_law_648 ?_
  refine va_sld hx hb hX hbl (Nat.not_le.mpr hbl) hS (w_in (k := 1) hi hL (by omega)) dL_law_649 ?_
  refine lv_aload_n hx hb dL_law_650 rfl (lv_at hl 5 rfl) ?_
  refine lv_iload hx hb dL_law_651 (lv_at hl 1 rfl) ?_
  refine lv_iconst (v := 2) hx hb dL_law_653 (by decide) ?_
  refine lv_iadd hx hb dL_law_654 ?_
  refine va_sld hx hb hX hbl (Nat.not_le.mpr hbl) hS (w_in (k := 2) hi hL (by omega)) dL_law_655 ?_
  refine i_call (Wd := fun m9 => mw qm cI m9) (w0 := mw qm cI mm) (wo := bw qb cI b1 ++ sw qs cI s1 ++ uw qu cI cB u1 ++ aw qr cI tr ++ ew qe cI te ++ xw qx cI x ++ dw qd cI cO eA rd ++ kw qk qb qr qe qs qu qx qd cI kk ++ lo cL ao (oN c1 r1 o)) (va_runV (mc := 0) (ms := 0) (As := [.int (xs (nI i + 1).toNatClampNeg), .int (xs (nI i + 2).toNatClampNeg)]) (rest := []) ⟨hx, hb, hml, hown, hts⟩ (mX12_set l dC dI cI cB cO cL qm mm (xs (nI i + 1).toNatClampNeg) (xs (nI i + 2).toNatClampNeg) hIm kM) (cwV 2 hts gW_X12_set rfl rfl rfl (by decide +kernel) ⟨Nat.le_of_ble_eq_true rfl, Nat.le_of_ble_eq_true rfl⟩) ⟨gP_blind, va_recv hK hm9 (ci := 9) (q0 := 0) rfl rfl, gP_ok hm9 hK⟩ rfl rfl hl.1 rfl (lv_room (Nat.le_of_ble_eq_true rfl)) dL_law_656 ⟨hcl0, hsl0⟩) (va_P.app (va_P.app (va_P.app (va_P.app (va_P.app (va_P.app (va_P.app (va_P.app hb9 hs9) hu9) hr9) he9) hx9) hd9) hk9) ho9) (gC_T hG [8, 0, 1, 2, 3, 4, 5, 6, 7, 9] rfl rfl) (fun q h => Or.inl (mem_wA h)) (fun q h => Or.inl (mem_wA h)) (gC_N hG [8] rfl rfl) hA hS (fun r2 m2 H locs hp2 hm9 hO hS => ?_)
  have hp2 : (r2, m2) = pX12_set mm (xs (nI i + 1).toNatClampNeg) (xs (nI i + 2).toNatClampNeg) := hp2
  have ho9 := va_P_suf hO
  have t609 := va_P_pre hO
  have hk9 := va_P_suf t609
  have t629 := va_P_pre t609
  have hd9 := va_P_suf t629
  have t649 := va_P_pre t629
  have hx9 := va_P_suf t649
  have t669 := va_P_pre t649
  have he9 := va_P_suf t669
  have t689 := va_P_pre t669
  have hr9 := va_P_suf t689
  have t709 := va_P_pre t689
  have hu9 := va_P_suf t709
  have t729 := va_P_pre t709
  have hs9 := va_P_suf t729
  have t749 := va_P_pre t729
  have hb9 := t749
  have e2 : r2 = (pX12_set mm (xs (nI i + 1).toNatClampNeg) (xs (nI i + 2).toNatClampNeg)).1 := by rw [← hp2]
  have e3 : m2 = (pX12_set mm (xs (nI i + 1).toNatClampNeg) (xs (nI i + 2).toNatClampNeg)).2 := by rw [← hp2]
  rw [← e3] at hR h3
  rw [← e2] at h4
  refine lv_istore (lv' := [(6, .int r2), (5, .int (rcN 2 c1)), (4, .int (nI i)), (3, .ref ao), (2, .ref (qm 0)), (1, .ref (qk 0)), (0, .ref b)]) hx hb dL_law_659 hl (by decide) rfl (fun ls hl => ?_)
  refine lv_aload_n hx hb dL_law_661 rfl (lv_at hl 4 rfl) ?_
  refine gro_i (va_runV (mc := 0) (ms := 0) (As := []) (rest := []) ⟨hx, hb, hml, hown, hts⟩ (mX12_thrown l dC dI cI cB cO cL qm m2) (cwV 0 hts gW_X12_thrown rfl rfl rfl (by decide +kernel) ⟨Nat.le_of_ble_eq_true rfl, Nat.le_of_ble_eq_true rfl⟩) ⟨gP_blind, va_recv hK hm9 (ci := 9) (q0 := 0) rfl rfl, gP_ok hm9 hK⟩ rfl rfl hl.1 rfl (lv_room (Nat.le_of_ble_eq_true rfl)) dL_law_662 ⟨hcl0, hsl0⟩) ?_
  refine lv_iload hx hb dL_law_665 (lv_at hl 1 rfl) ?_
  refine lv_icmp_eq (tgt := 672) hx hb dL_law_667 (by decide) (fun _ => ?_) (fun h9 => absurd (show pX12_thrown m2 = rcN 2 c1 from h3.trans hmp.symm) h9)
  refine lv_iload hx hb dL_law_672 (lv_at hl 1 rfl) ?_
  refine lv_if_ne (tgt := 689) hx hb dL_law_674 (by decide) (fun _ => ?_) (fun h9 => ?_)
  · refine lv_goto (tgt := 1972) hx hb dL_law_689 (by decide) ?_
    exact hgo b1 s1 u1 tr te x rd kk m2 ((oN c1 r1 o)) _ _ _ ⟨hb9, hs9, hu9, hr9, he9, hx9, hd9, hk9, hm9, ho9⟩ hR hS (lv_sub hl [2, 3, 4, 5, 6] rfl)
  · refine lv_aload_n hx hb dL_law_677 rfl (lv_at hl 3 rfl) ?_
    refine lv_iconst (v := 0) hx hb dL_law_678 (by decide) ?_
    refine va_lald (D := (dC, dI)) (tys := tYS cI cB cO cL) hx hb hK ho9 0 3 rfl rfl (vp_in_n (i := 0) (by omega) (by omega)) dL_law_679 ?_
    refine lv_iload hx hb dL_law_680 (lv_at hl 0 rfl) ?_
    refine lv_i2l hx hb dL_law_682 rfl ?_
    refine W.lcmp hx hb dL_law_683 ?_
    refine lv_if_eq (tgt := 689) hx hb dL_law_684 (by decide) (fun _ => ?_) (fun h8 => absurd ((lg_cmp_eq _ _).mpr ?_) h8)
    · refine lv_goto (tgt := 1972) hx hb dL_law_689 (by decide) ?_
      exact hgo b1 s1 u1 tr te x rd kk m2 ((oN c1 r1 o)) _ _ _ ⟨hb9, hs9, hu9, hr9, he9, hx9, hd9, hk9, hm9, ho9⟩ hR hS (lv_sub hl [2, 3, 4, 5, 6] rfl)
    · have h7 := rcN_0 h9
      show oN c1 r1 o 0 = r2.toInt64
      rw [oN_0 h7, h4 h7]
set_option maxHeartbeats 4000000 in
set_option maxRecDepth 100000 in
theorem w_setS (p : Program) (l : Launch) (e : Env) (s : State) (m : MethodId) (below : List Frame) (meth : Method) (c : Code) (b L : Nat) (xs : Nat → Int32) (dC : Nat → ClassId) (dI : Nat → Nat → Nat) (cI cB cO cL : ClassId) (sT eA qb qs qu qr qe qx qd qk qm : Nat → Nat) (ao : Nat) (hLS : LStart p l s m meth c b L xs (dC, dI) cI cB cO cL sT eA qb qs qu qr qe qx qd qk qm ao) (i : Nat) (hi : i + 6 ≤ L) (bs : BS) (s9 : SS) (u : US) (tr te x : TS) (rd : RS) (kk : Int32) (mm : MS) (o : Nat → Int64) (H : Heap) (locs : List Loc) (ls : Array Slot) (cells slots : Nat) (hcl : cells + 4 ≤ 601024) (hsl : slots + 24 ≤ 7293034) (hI : LI (dC, dI) cI cB cO cL eA qb qs qu qr qe qx qd qk qm ao bs s9 u tr te x rd kk mm o H) (hR : SR bs s9 u x kk mm) (hS : va_S (xA s.heap.size) s.heap H locs) (hl : lv_has ls 9 (lvL b ao qm qk i)) (hgo : LGo p l e s m below meth c b (dC, dI) cI cB cO cL eA qb qs qu qr qe qx qd qk qm ao i (cells + 4) (slots + 24)) : W p l e room_1 s m #[Value.ref b] below meth c H locs cells slots (lw_Z below #[Value.ref b] s) (F0 m 692 ls []) := by
  obtain ⟨hfl, ⟨hx, hb, hr, hml, hown, hts, hlocks⟩, hK, hF, hC, hX, hbl, hL, hG⟩ := hLS
  obtain ⟨hb9, hs9, hu9, hr9, he9, hx9, hd9, hk9, hm9, ho9⟩ := hI
  have hA : ∀ q : Nat, s.heap.size ≤ q → xA s.heap.size q := fun q h => h
  have hIm : gD (fun _ => True) (mAd qm) := gC_T hG [8] rfl rfl
  obtain ⟨c1, r1, b1, s1, u1, e1, kC, kM, hR, ⟨h3, h4⟩, -⟩ := setS_op hR (xs (nI i + 1).toNatClampNeg)
  have hc9 := cod_setS (P := fun z => z = 0 ∨ z = 2) bs s9 u kk (xs (nI i + 1).toNatClampNeg) (by decide) (by decide)
  have hmp := cod_setS (P := fun z => rcN 2 z = mpA z) bs s9 u kk (xs (nI i + 1).toNatClampNeg) (by decide) (by decide)
  rw [e1] at hmp
  have hmp : rcN 2 c1 = mpA c1 := hmp
  have hcl0 : cells + 4 + 0 ≤ 601024 := hcl
  have hsl0 : slots + 24 + 0 ≤ 7293034 := hsl
  refine lv_aload_n hx hb dL_law_692 rfl (lv_at hl 3 rfl) ?_
  refine lv_aload_n hx hb dL_law_693 rfl (lv_at hl 4 rfl) ?_
  refine lv_iload hx hb dL_law_694 (lv_at hl 0 rfl) ?_
  refine lv_iconst (v := 1) hx hb dL_law_696 (by decide) ?_
  refine lv_iadd hx hb dL_law_697 ?_
  refine va_sld hx hb hX hbl (Nat.not_le.mpr hbl) hS (w_in (k := 1) hi hL (by omega)) dL_law_698 ?_
  refine lv_aload_n hx hb dL_law_699 rfl (lv_at hl 1 rfl) ?_
  refine i_call (Wd := fun v9 : (BS × SS × US × Int32) × (Nat → Int64) => ((fun z9 : BS × SS × US × Int32 => bw qb cI z9.1 ++ sw qs cI z9.2.1 ++ uw qu cI cB z9.2.2.1 ++ kw qk qb qr qe qs qu qx qd cI z9.2.2.2)) v9.1 ++ lo cL ao v9.2) (w0 := bw qb cI bs ++ sw qs cI s9 ++ uw qu cI cB u ++ kw qk qb qr qe qs qu qx qd cI kk ++ lo cL ao o) (wo := aw qr cI tr ++ ew qe cI te ++ xw qx cI x ++ dw qd cI cO eA rd ++ mw qm cI mm) (vx_runSW (mc := 4) (ms := 24) (As := [.ref (qk 0), .int (xs (nI i + 1).toNatClampNeg), .ref ao]) (rest := []) ⟨hx, hb, hml, hown, hts⟩ (mL_setS l hfl dC dI cI cB cO cL s.heap.size sT eA qb qs qu qk qr qe qx qd bs s9 u kk (xs (nI i + 1).toNatClampNeg) ao o H.size hS.1 (gC_T hG [0, 1, 2, 7, 9] rfl rfl) (gC_N hG [0, 1, 2, 7, 9] rfl rfl) kC hc9) (vx_cwSW 3 hts gW_L_setS rfl rfl rfl (by decide +kernel) ⟨Nat.le_of_ble_eq_true rfl, Nat.le_of_ble_eq_true rfl⟩) ⟨lP_blind, lP_ok (A := xA s.heap.size) (va_P.app (va_P.app (va_P.app (va_P.app hb9 hs9) hu9) hk9) ho9) hK hF hC hS (fun q h => h)⟩ rfl rfl hl.1 rfl (lv_room (Nat.le_of_ble_eq_true rfl)) dL_law_700 ⟨hcl, hsl⟩) (va_P.app (va_P.app (va_P.app (va_P.app hr9 he9) hx9) hd9) hm9) (gC_T hG [0, 1, 2, 7, 9, 3, 4, 5, 6, 8] rfl rfl) (fun q h => mem_vA h) (fun q h => mem_vA h) (gC_N hG [0, 1, 2, 7, 9] rfl rfl) hA hS (fun r9 v9 H locs hp hP hO hS => ?_)
  rw [e1, lF_eq] at hp
  obtain ⟨rfl, rfl⟩ := Prod.mk.inj hp
  have hm9 := va_P_suf hO
  have t229 := va_P_pre hO
  have hd9 := va_P_suf t229
  have t249 := va_P_pre t229
  have hx9 := va_P_suf t249
  have t269 := va_P_pre t249
  have he9 := va_P_suf t269
  have t289 := va_P_pre t269
  have hr9 := t289
  have hP : va_P (dC, dI) vwCl (bw qb cI b1 ++ sw qs cI s1 ++ uw qu cI cB u1 ++ kw qk qb qr qe qs qu qx qd cI kk ++ lo cL ao (oN c1 r1 o)) H := hP
  have ho9 := va_P_suf hP
  have t329 := va_P_pre hP
  have hk9 := va_P_suf t329
  have t349 := va_P_pre t329
  have hu9 := va_P_suf t349
  have t369 := va_P_pre t349
  have hs9 := va_P_suf t369
  have t389 := va_P_pre t369
  have hb9 := t389
  refine lv_istore (lv' := [(5, .int (rcN 2 c1)), (4, .int (nI i)), (3, .ref ao), (2, .ref (qm 0)), (1, .ref (qk 0)), (0, .ref b)]) hx hb dL_law_703 hl (by decide) rfl (fun ls hl => ?_)
  refine lv_aload_n hx hb dL_law_705 rfl (lv_at hl 3 rfl) ?_
  refine lv_aload_n hx hb dL_law_706 rfl (lv_at hl 5 rfl) ?_
  refine lv_iload hx hb dL_law_707 (lv_at hl 1 rfl) ?_
  refine lv_iconst (v := 1) hx hb dL_law_709 (by decide) ?_
  refine lv_iadd hx hb dL_law_710 ?_
  refine va_sld hx hb hX hbl (Nat.not_le.mpr hbl) hS (w_in (k := 1) hi hL (by omega)) dL_law_711 ?_
  refine i_call (Wd := fun m9 => mw qm cI m9) (w0 := mw qm cI mm) (wo := bw qb cI b1 ++ sw qs cI s1 ++ uw qu cI cB u1 ++ aw qr cI tr ++ ew qe cI te ++ xw qx cI x ++ dw qd cI cO eA rd ++ kw qk qb qr qe qs qu qx qd cI kk ++ lo cL ao (oN c1 r1 o)) (va_runV (mc := 0) (ms := 0) (As := [.int (xs (nI i + 1).toNatClampNeg)]) (rest := []) ⟨hx, hb, hml, hown, hts⟩ (mX12_setS l dC dI cI cB cO cL qm mm (xs (nI i + 1).toNatClampNeg) hIm kM) (cwV 1 hts gW_X12_setS rfl rfl rfl (by decide +kernel) ⟨Nat.le_of_ble_eq_true rfl, Nat.le_of_ble_eq_true rfl⟩) ⟨gP_blind, va_recv hK hm9 (ci := 9) (q0 := 0) rfl rfl, gP_ok hm9 hK⟩ rfl rfl hl.1 rfl (lv_room (Nat.le_of_ble_eq_true rfl)) dL_law_712 ⟨hcl0, hsl0⟩) (va_P.app (va_P.app (va_P.app (va_P.app (va_P.app (va_P.app (va_P.app (va_P.app hb9 hs9) hu9) hr9) he9) hx9) hd9) hk9) ho9) (gC_T hG [8, 0, 1, 2, 3, 4, 5, 6, 7, 9] rfl rfl) (fun q h => Or.inl (mem_wA h)) (fun q h => Or.inl (mem_wA h)) (gC_N hG [8] rfl rfl) hA hS (fun r2 m2 H locs hp2 hm9 hO hS => ?_)
  have hp2 : (r2, m2) = pX12_setS mm (xs (nI i + 1).toNatClampNeg) := hp2
  have ho9 := va_P_suf hO
  have t509 := va_P_pre hO
  have hk9 := va_P_suf t509
  have t529 := va_P_pre t509
  have hd9 := va_P_suf t529
  have t549 := va_P_pre t529
  have hx9 := va_P_suf t549
  have t569 := va_P_pre t549
  have he9 := va_P_suf t569
  have t589 := va_P_pre t569
  have hr9 := va_P_suf t589
  have t609 := va_P_pre t589
  have hu9 := va_P_suf t609
  have t629 := va_P_pre t609
  have hs9 := va_P_suf t629
  have t649 := va_P_pre t629
  have hb9 := t649
  have e2 : r2 = (pX12_setS mm (xs (nI i + 1).toNatClampNeg)).1 := by rw [← hp2]
  have e3 : m2 = (pX12_setS mm (xs (nI i + 1).toNatClampNeg)).2 := by rw [← hp2]
  rw [← e3] at hR h3
  rw [← e2] at h4
  refine lv_istore (lv' := [(6, .int r2), (5, .int (rcN 2 c1)), (4, .int (nI i)), (3, .ref ao), (2, .ref (qm 0)), (1, .ref (qk 0)), (0, .ref b)]) hx hb dL_law_715 hl (by decide) rfl (fun ls hl => ?_)
  refine lv_aload_n hx hb dL_law_717 rfl (lv_at hl 4 rfl) ?_
  refine gro_i (va_runV (mc := 0) (ms := 0) (As := []) (rest := []) ⟨hx, hb, hml, hown, hts⟩ (mX12_thrown l dC dI cI cB cO cL qm m2) (cwV 0 hts gW_X12_thrown rfl rfl rfl (by decide +kernel) ⟨Nat.le_of_ble_eq_true rfl, Nat.le_of_ble_eq_true rfl⟩) ⟨gP_blind, va_recv hK hm9 (ci := 9) (q0 := 0) rfl rfl, gP_ok hm9 hK⟩ rfl rfl hl.1 rfl (lv_room (Nat.le_of_ble_eq_true rfl)) dL_law_718 ⟨hcl0, hsl0⟩) ?_
  refine lv_iload hx hb dL_law_721 (lv_at hl 1 rfl) ?_
  refine lv_icmp_eq (tgt := 728) hx hb dL_law_723 (by decide) (fun _ => ?_) (fun h9 => absurd (show pX12_thrown m2 = rcN 2 c1 from h3.trans hmp.symm) h9)
  refine lv_iload hx hb dL_law_728 (lv_at hl 1 rfl) ?_
  refine lv_if_ne (tgt := 745) hx hb dL_law_730 (by decide) (fun _ => ?_) (fun h9 => ?_)
  · refine lv_goto (tgt := 1972) hx hb dL_law_745 (by decide) ?_
    exact hgo b1 s1 u1 tr te x rd kk m2 ((oN c1 r1 o)) _ _ _ ⟨hb9, hs9, hu9, hr9, he9, hx9, hd9, hk9, hm9, ho9⟩ hR hS (lv_sub hl [2, 3, 4, 5, 6] rfl)
  · refine lv_aload_n hx hb dL_law_733 rfl (lv_at hl 3 rfl) ?_
    refine lv_iconst (v := 0) hx hb dL_law_734 (by decide) ?_
    refine va_lald (D := (dC, dI)) (tys := tYS cI cB cO cL) hx hb hK ho9 0 3 rfl rfl (vp_in_n (i := 0) (by omega) (by omega)) dL_law_735 ?_
    refine lv_iload hx hb dL_law_736 (lv_at hl 0 rfl) ?_
    refine lv_i2l hx hb dL_law_738 rfl ?_
    refine W.lcmp hx hb dL_law_739 ?_
    refine lv_if_eq (tgt := 745) hx hb dL_law_740 (by decide) (fun _ => ?_) (fun h8 => absurd ((lg_cmp_eq _ _).mpr ?_) h8)
    · refine lv_goto (tgt := 1972) hx hb dL_law_745 (by decide) ?_
      exact hgo b1 s1 u1 tr te x rd kk m2 ((oN c1 r1 o)) _ _ _ ⟨hb9, hs9, hu9, hr9, he9, hx9, hd9, hk9, hm9, ho9⟩ hR hS (lv_sub hl [2, 3, 4, 5, 6] rfl)
    · have h7 := rcN_0 h9
      show oN c1 r1 o 0 = r2.toInt64
      rw [oN_0 h7, h4 h7]
set_option maxHeartbeats 4000000 in
set_option maxRecDepth 100000 in
theorem w_click (p : Program) (l : Launch) (e : Env) (s : State) (m : MethodId) (below : List Frame) (meth : Method) (c : Code) (b L : Nat) (xs : Nat → Int32) (dC : Nat → ClassId) (dI : Nat → Nat → Nat) (cI cB cO cL : ClassId) (sT eA qb qs qu qr qe qx qd qk qm : Nat → Nat) (ao : Nat) (hLS : LStart p l s m meth c b L xs (dC, dI) cI cB cO cL sT eA qb qs qu qr qe qx qd qk qm ao) (i : Nat) (hi : i + 6 ≤ L) (bs : BS) (s9 : SS) (u : US) (tr te x : TS) (rd : RS) (kk : Int32) (mm : MS) (o : Nat → Int64) (H : Heap) (locs : List Loc) (ls : Array Slot) (cells slots : Nat) (hcl : cells + 4 ≤ 601024) (hsl : slots + 24 ≤ 7293034) (hI : LI (dC, dI) cI cB cO cL eA qb qs qu qr qe qx qd qk qm ao bs s9 u tr te x rd kk mm o H) (hR : SR bs s9 u x kk mm) (hS : va_S (xA s.heap.size) s.heap H locs) (hl : lv_has ls 9 (lvL b ao qm qk i)) (hgo : LGo p l e s m below meth c b (dC, dI) cI cB cO cL eA qb qs qu qr qe qx qd qk qm ao i (cells + 4) (slots + 24)) : W p l e room_1 s m #[Value.ref b] below meth c H locs cells slots (lw_Z below #[Value.ref b] s) (F0 m 748 ls []) := by
  obtain ⟨hfl, ⟨hx, hb, hr, hml, hown, hts, hlocks⟩, hK, hF, hC, hX, hbl, hL, hG⟩ := hLS
  obtain ⟨hb9, hs9, hu9, hr9, he9, hx9, hd9, hk9, hm9, ho9⟩ := hI
  have hA : ∀ q : Nat, s.heap.size ≤ q → xA s.heap.size q := fun q h => h
  have hIm : gD (fun _ => True) (mAd qm) := gC_T hG [8] rfl rfl
  obtain ⟨c1, r1, te1, b1, s1, u1, e1, kC, kM, hR, ⟨h3, h4⟩, -⟩ := click_op hR te (xs (nI i + 1).toNatClampNeg) (xs (nI i + 2).toNatClampNeg) (xs (nI i + 3).toNatClampNeg)
  have hc9 := cod_click (P := fun z => z = 0 ∨ z = 2 ∨ z = 3) te bs s9 u kk (xs (nI i + 1).toNatClampNeg) (xs (nI i + 2).toNatClampNeg) (xs (nI i + 3).toNatClampNeg) (by decide) (by decide) (by decide)
  have hmp := cod_click (P := fun z => rcN 2 z = mpA z) te bs s9 u kk (xs (nI i + 1).toNatClampNeg) (xs (nI i + 2).toNatClampNeg) (xs (nI i + 3).toNatClampNeg) (by decide) (by decide) (by decide)
  rw [e1] at hmp
  have hmp : rcN 2 c1 = mpA c1 := hmp
  have hcl0 : cells + 4 + 0 ≤ 601024 := hcl
  have hsl0 : slots + 24 + 0 ≤ 7293034 := hsl
  refine lv_aload_n hx hb dL_law_748 rfl (lv_at hl 3 rfl) ?_
  refine lv_aload_n hx hb dL_law_749 rfl (lv_at hl 4 rfl) ?_
  refine lv_iload hx hb dL_law_750 (lv_at hl 0 rfl) ?_
  refine lv_iconst (v := 1) hx hb dL_law_752 (by decide) ?_
  refine lv_iadd hx hb dL_law_753 ?_
  refine va_sld hx hb hX hbl (Nat.not_le.mpr hbl) hS (w_in (k := 1) hi hL (by omega)) dL_law_754 ?_
  refine lv_aload_n hx hb dL_law_755 rfl (lv_at hl 4 rfl) ?_
  refine lv_iload hx hb dL_law_756 (lv_at hl 0 rfl) ?_
  refine lv_iconst (v := 2) hx hb dL_law_758 (by decide) ?_
  refine lv_iadd hx hb dL_law_759 ?_
  refine va_sld hx hb hX hbl (Nat.not_le.mpr hbl) hS (w_in (k := 2) hi hL (by omega)) dL_law_760 ?_
  refine lv_aload_n hx hb dL_law_761 rfl (lv_at hl 4 rfl) ?_
  refine lv_iload hx hb dL_law_762 (lv_at hl 0 rfl) ?_
  refine lv_iconst (v := 3) hx hb dL_law_764 (by decide) ?_
  refine lv_iadd hx hb dL_law_765 ?_
  refine va_sld hx hb hX hbl (Nat.not_le.mpr hbl) hS (w_in (k := 3) hi hL (by omega)) dL_law_766 ?_
  refine lv_aload_n hx hb dL_law_767 rfl (lv_at hl 1 rfl) ?_
  refine i_call (Wd := fun v9 : (TS × BS × SS × US × Int32) × (Nat → Int64) => ((fun z9 : TS × BS × SS × US × Int32 => ew qe cI z9.1 ++ bw qb cI z9.2.1 ++ sw qs cI z9.2.2.1 ++ uw qu cI cB z9.2.2.2.1 ++ kw qk qb qr qe qs qu qx qd cI z9.2.2.2.2)) v9.1 ++ lo cL ao v9.2) (w0 := ew qe cI te ++ bw qb cI bs ++ sw qs cI s9 ++ uw qu cI cB u ++ kw qk qb qr qe qs qu qx qd cI kk ++ lo cL ao o) (wo := aw qr cI tr ++ xw qx cI x ++ dw qd cI cO eA rd ++ mw qm cI mm) (vx_runSW (mc := 4) (ms := 24) (As := [.ref (qk 0), .int (xs (nI i + 1).toNatClampNeg), .int (xs (nI i + 2).toNatClampNeg), .int (xs (nI i + 3).toNatClampNeg), .ref ao]) (rest := []) ⟨hx, hb, hml, hown, hts⟩ (mL_click l hfl dC dI cI cB cO cL s.heap.size sT eA qe qb qs qu qk qr qx qd te bs s9 u kk (xs (nI i + 1).toNatClampNeg) (xs (nI i + 2).toNatClampNeg) (xs (nI i + 3).toNatClampNeg) ao o H.size hS.1 (gC_T hG [4, 0, 1, 2, 7, 9] rfl rfl) (gC_N hG [4, 0, 1, 2, 7, 9] rfl rfl) kC hc9) (vx_cwSW 5 hts gW_L_click rfl rfl rfl (by decide +kernel) ⟨Nat.le_of_ble_eq_true rfl, Nat.le_of_ble_eq_true rfl⟩) ⟨lP_blind, lP_ok (A := xA s.heap.size) (va_P.app (va_P.app (va_P.app (va_P.app (va_P.app he9 hb9) hs9) hu9) hk9) ho9) hK hF hC hS (fun q h => h)⟩ rfl rfl hl.1 rfl (lv_room (Nat.le_of_ble_eq_true rfl)) dL_law_768 ⟨hcl, hsl⟩) (va_P.app (va_P.app (va_P.app hr9 hx9) hd9) hm9) (gC_T hG [4, 0, 1, 2, 7, 9, 3, 5, 6, 8] rfl rfl) (fun q h => mem_vA h) (fun q h => mem_vA h) (gC_N hG [4, 0, 1, 2, 7, 9] rfl rfl) hA hS (fun r9 v9 H locs hp hP hO hS => ?_)
  rw [e1, lF_eq] at hp
  obtain ⟨rfl, rfl⟩ := Prod.mk.inj hp
  have hm9 := va_P_suf hO
  have t329 := va_P_pre hO
  have hd9 := va_P_suf t329
  have t349 := va_P_pre t329
  have hx9 := va_P_suf t349
  have t369 := va_P_pre t349
  have hr9 := t369
  have hP : va_P (dC, dI) vwCl (ew qe cI te1 ++ bw qb cI b1 ++ sw qs cI s1 ++ uw qu cI cB u1 ++ kw qk qb qr qe qs qu qx qd cI kk ++ lo cL ao (oN c1 r1 o)) H := hP
  have ho9 := va_P_suf hP
  have t409 := va_P_pre hP
  have hk9 := va_P_suf t409
  have t429 := va_P_pre t409
  have hu9 := va_P_suf t429
  have t449 := va_P_pre t429
  have hs9 := va_P_suf t449
  have t469 := va_P_pre t449
  have hb9 := va_P_suf t469
  have t489 := va_P_pre t469
  have he9 := t489
  refine lv_istore (lv' := [(5, .int (rcN 2 c1)), (4, .int (nI i)), (3, .ref ao), (2, .ref (qm 0)), (1, .ref (qk 0)), (0, .ref b)]) hx hb dL_law_771 hl (by decide) rfl (fun ls hl => ?_)
  refine lv_aload_n hx hb dL_law_773 rfl (lv_at hl 3 rfl) ?_
  refine lv_aload_n hx hb dL_law_774 rfl (lv_at hl 5 rfl) ?_
  refine lv_iload hx hb dL_law_775 (lv_at hl 1 rfl) ?_
  refine lv_iconst (v := 1) hx hb dL_law_777 (by decide) ?_
  refine lv_iadd hx hb dL_law_778 ?_
  refine va_sld hx hb hX hbl (Nat.not_le.mpr hbl) hS (w_in (k := 1) hi hL (by omega)) dL_law_779 ?_
  refine lv_aload_n hx hb dL_law_780 rfl (lv_at hl 5 rfl) ?_
  refine lv_iload hx hb dL_law_781 (lv_at hl 1 rfl) ?_
  refine lv_iconst (v := 2) hx hb dL_law_783 (by decide) ?_
  refine lv_iadd hx hb dL_law_784 ?_
  refine va_sld hx hb hX hbl (Nat.not_le.mpr hbl) hS (w_in (k := 2) hi hL (by omega)) dL_law_785 ?_
  refine lv_aload_n hx hb dL_law_786 rfl (lv_at hl 5 rfl) ?_
  refine lv_iload hx hb dL_law_787 (lv_at hl 1 rfl) ?_
  refine lv_iconst (v := 3) hx hb dL_law_789 (by decide) ?_
  refine lv_iadd hx hb dL_law_790 ?_
  refine va_sld hx hb hX hbl (Nat.not_le.mpr hbl) hS (w_in (k := 3) hi hL (by omega)) dL_law_791 ?_
  refine i_call (Wd := fun m9 => mw qm cI m9) (w0 := mw qm cI mm) (wo := bw qb cI b1 ++ sw qs cI s1 ++ uw qu cI cB u1 ++ aw qr cI tr ++ ew qe cI te1 ++ xw qx cI x ++ dw qd cI cO eA rd ++ kw qk qb qr qe qs qu qx qd cI kk ++ lo cL ao (oN c1 r1 o)) (va_runV (mc := 0) (ms := 0) (As := [.int (xs (nI i + 1).toNatClampNeg), .int (xs (nI i + 2).toNatClampNeg), .int (xs (nI i + 3).toNatClampNeg)]) (rest := []) ⟨hx, hb, hml, hown, hts⟩ (mX12_click l dC dI cI cB cO cL qm mm (xs (nI i + 1).toNatClampNeg) (xs (nI i + 2).toNatClampNeg) (xs (nI i + 3).toNatClampNeg) hIm kM) (cwV 3 hts gW_X12_click rfl rfl rfl (by decide +kernel) ⟨Nat.le_of_ble_eq_true rfl, Nat.le_of_ble_eq_true rfl⟩) ⟨gP_blind, va_recv hK hm9 (ci := 9) (q0 := 0) rfl rfl, gP_ok hm9 hK⟩ rfl rfl hl.1 rfl (lv_room (Nat.le_of_ble_eq_true rfl)) dL_law_792 ⟨hcl0, hsl0⟩) (va_P.app (va_P.app (va_P.app (va_P.app (va_P.app (va_P.app (va_P.app (va_P.app hb9 hs9) hu9) hr9) he9) hx9) hd9) hk9) ho9) (gC_T hG [8, 0, 1, 2, 3, 4, 5, 6, 7, 9] rfl rfl) (fun q h => Or.inl (mem_wA h)) (fun q h => Or.inl (mem_wA h)) (gC_N hG [8] rfl rfl) hA hS (fun r2 m2 H locs hp2 hm9 hO hS => ?_)
  have hp2 : (r2, m2) = pX12_click mm (xs (nI i + 1).toNatClampNeg) (xs (nI i + 2).toNatClampNeg) (xs (nI i + 3).toNatClampNeg) := hp2
  have ho9 := va_P_suf hO
  have t709 := va_P_pre hO
  have hk9 := va_P_suf t709
  have t729 := va_P_pre t709
  have hd9 := va_P_suf t729
  have t749 := va_P_pre t729
  have hx9 := va_P_suf t749
  have t769 := va_P_pre t749
  have he9 := va_P_suf t769
  have t789 := va_P_pre t769
  have hr9 := va_P_suf t789
  have t809 := va_P_pre t789
  have hu9 := va_P_suf t809
  have t829 := va_P_pre t809
  have hs9 := va_P_suf t829
  have t849 := va_P_pre t829
  have hb9 := t849
  have e2 : r2 = (pX12_click mm (xs (nI i + 1).toNatClampNeg) (xs (nI i + 2).toNatClampNeg) (xs (nI i + 3).toNatClampNeg)).1 := by rw [← hp2]
  have e3 : m2 = (pX12_click mm (xs (nI i + 1).toNatClampNeg) (xs (nI i + 2).toNatClampNeg) (xs (nI i + 3).toNatClampNeg)).2 := by rw [← hp2]
  rw [← e3] at hR h3
  rw [← e2] at h4
  refine lv_istore (lv' := [(6, .int r2), (5, .int (rcN 2 c1)), (4, .int (nI i)), (3, .ref ao), (2, .ref (qm 0)), (1, .ref (qk 0)), (0, .ref b)]) hx hb dL_law_795 hl (by decide) rfl (fun ls hl => ?_)
  refine lv_aload_n hx hb dL_law_797 rfl (lv_at hl 4 rfl) ?_
  refine gro_i (va_runV (mc := 0) (ms := 0) (As := []) (rest := []) ⟨hx, hb, hml, hown, hts⟩ (mX12_thrown l dC dI cI cB cO cL qm m2) (cwV 0 hts gW_X12_thrown rfl rfl rfl (by decide +kernel) ⟨Nat.le_of_ble_eq_true rfl, Nat.le_of_ble_eq_true rfl⟩) ⟨gP_blind, va_recv hK hm9 (ci := 9) (q0 := 0) rfl rfl, gP_ok hm9 hK⟩ rfl rfl hl.1 rfl (lv_room (Nat.le_of_ble_eq_true rfl)) dL_law_798 ⟨hcl0, hsl0⟩) ?_
  refine lv_iload hx hb dL_law_801 (lv_at hl 1 rfl) ?_
  refine lv_icmp_eq (tgt := 808) hx hb dL_law_803 (by decide) (fun _ => ?_) (fun h9 => absurd (show pX12_thrown m2 = rcN 2 c1 from h3.trans hmp.symm) h9)
  refine lv_iload hx hb dL_law_808 (lv_at hl 1 rfl) ?_
  refine lv_if_ne (tgt := 825) hx hb dL_law_810 (by decide) (fun _ => ?_) (fun h9 => ?_)
  · refine lv_goto (tgt := 1972) hx hb dL_law_825 (by decide) ?_
    exact hgo b1 s1 u1 tr te1 x rd kk m2 ((oN c1 r1 o)) _ _ _ ⟨hb9, hs9, hu9, hr9, he9, hx9, hd9, hk9, hm9, ho9⟩ hR hS (lv_sub hl [2, 3, 4, 5, 6] rfl)
  · refine lv_aload_n hx hb dL_law_813 rfl (lv_at hl 3 rfl) ?_
    refine lv_iconst (v := 0) hx hb dL_law_814 (by decide) ?_
    refine va_lald (D := (dC, dI)) (tys := tYS cI cB cO cL) hx hb hK ho9 0 3 rfl rfl (vp_in_n (i := 0) (by omega) (by omega)) dL_law_815 ?_
    refine lv_iload hx hb dL_law_816 (lv_at hl 0 rfl) ?_
    refine lv_i2l hx hb dL_law_818 rfl ?_
    refine W.lcmp hx hb dL_law_819 ?_
    refine lv_if_eq (tgt := 825) hx hb dL_law_820 (by decide) (fun _ => ?_) (fun h8 => absurd ((lg_cmp_eq _ _).mpr ?_) h8)
    · refine lv_goto (tgt := 1972) hx hb dL_law_825 (by decide) ?_
      exact hgo b1 s1 u1 tr te1 x rd kk m2 ((oN c1 r1 o)) _ _ _ ⟨hb9, hs9, hu9, hr9, he9, hx9, hd9, hk9, hm9, ho9⟩ hR hS (lv_sub hl [2, 3, 4, 5, 6] rfl)
    · have h7 := rcN_0 h9
      show oN c1 r1 o 0 = r2.toInt64
      rw [oN_0 h7, h4 h7]
set_option maxHeartbeats 4000000 in
set_option maxRecDepth 100000 in
theorem w_calibrate (p : Program) (l : Launch) (e : Env) (s : State) (m : MethodId) (below : List Frame) (meth : Method) (c : Code) (b L : Nat) (xs : Nat → Int32) (dC : Nat → ClassId) (dI : Nat → Nat → Nat) (cI cB cO cL : ClassId) (sT eA qb qs qu qr qe qx qd qk qm : Nat → Nat) (ao : Nat) (hLS : LStart p l s m meth c b L xs (dC, dI) cI cB cO cL sT eA qb qs qu qr qe qx qd qk qm ao) (i : Nat) (hi : i + 6 ≤ L) (bs : BS) (s9 : SS) (u : US) (tr te x : TS) (rd : RS) (kk : Int32) (mm : MS) (o : Nat → Int64) (H : Heap) (locs : List Loc) (ls : Array Slot) (cells slots : Nat) (hcl : cells + 4 ≤ 601024) (hsl : slots + 24 ≤ 7293034) (hI : LI (dC, dI) cI cB cO cL eA qb qs qu qr qe qx qd qk qm ao bs s9 u tr te x rd kk mm o H) (hR : SR bs s9 u x kk mm) (hS : va_S (xA s.heap.size) s.heap H locs) (hl : lv_has ls 9 (lvL b ao qm qk i)) (hgo : LGo p l e s m below meth c b (dC, dI) cI cB cO cL eA qb qs qu qr qe qx qd qk qm ao i (cells + 4) (slots + 24)) : W p l e room_1 s m #[Value.ref b] below meth c H locs cells slots (lw_Z below #[Value.ref b] s) (F0 m 828 ls []) := by
  obtain ⟨hfl, ⟨hx, hb, hr, hml, hown, hts, hlocks⟩, hK, hF, hC, hX, hbl, hL, hG⟩ := hLS
  obtain ⟨hb9, hs9, hu9, hr9, he9, hx9, hd9, hk9, hm9, ho9⟩ := hI
  have hA : ∀ q : Nat, s.heap.size ≤ q → xA s.heap.size q := fun q h => h
  have hIm : gD (fun _ => True) (mAd qm) := gC_T hG [8] rfl rfl
  obtain ⟨c1, r1, te1, b1, s1, u1, e1, kC, kM, hR, ⟨h3, h4⟩, -⟩ := known_op hR te (xs (nI i + 1).toNatClampNeg) (xs (nI i + 2).toNatClampNeg) (xs (nI i + 3).toNatClampNeg)
  have hc9 := cod_calibrate (P := fun z => z = 0 ∨ z = 2 ∨ z = 3) te bs s9 u kk (xs (nI i + 1).toNatClampNeg) (xs (nI i + 2).toNatClampNeg) (xs (nI i + 3).toNatClampNeg) (by decide) (by decide) (by decide)
  have hmp := cod_calibrate (P := fun z => rcN 2 z = mpA z) te bs s9 u kk (xs (nI i + 1).toNatClampNeg) (xs (nI i + 2).toNatClampNeg) (xs (nI i + 3).toNatClampNeg) (by decide) (by decide) (by decide)
  rw [e1] at hmp
  have hmp : rcN 2 c1 = mpA c1 := hmp
  have hcl0 : cells + 4 + 0 ≤ 601024 := hcl
  have hsl0 : slots + 24 + 0 ≤ 7293034 := hsl
  refine lv_aload_n hx hb dL_law_828 rfl (lv_at hl 3 rfl) ?_
  refine lv_aload_n hx hb dL_law_829 rfl (lv_at hl 4 rfl) ?_
  refine lv_iload hx hb dL_law_830 (lv_at hl 0 rfl) ?_
  refine lv_iconst (v := 1) hx hb dL_law_832 (by decide) ?_
  refine lv_iadd hx hb dL_law_833 ?_
  refine va_sld hx hb hX hbl (Nat.not_le.mpr hbl) hS (w_in (k := 1) hi hL (by omega)) dL_law_834 ?_
  refine lv_aload_n hx hb dL_law_835 rfl (lv_at hl 4 rfl) ?_
  refine lv_iload hx hb dL_law_836 (lv_at hl 0 rfl) ?_
  refine lv_iconst (v := 2) hx hb dL_law_838 (by decide) ?_
  refine lv_iadd hx hb dL_law_839 ?_
  refine va_sld hx hb hX hbl (Nat.not_le.mpr hbl) hS (w_in (k := 2) hi hL (by omega)) dL_law_840 ?_
  refine lv_aload_n hx hb dL_law_841 rfl (lv_at hl 4 rfl) ?_
  refine lv_iload hx hb dL_law_842 (lv_at hl 0 rfl) ?_
  refine lv_iconst (v := 3) hx hb dL_law_844 (by decide) ?_
  refine lv_iadd hx hb dL_law_845 ?_
  refine va_sld hx hb hX hbl (Nat.not_le.mpr hbl) hS (w_in (k := 3) hi hL (by omega)) dL_law_846 ?_
  refine lv_aload_n hx hb dL_law_847 rfl (lv_at hl 1 rfl) ?_
  refine i_call (Wd := fun v9 : (TS × BS × SS × US × Int32) × (Nat → Int64) => ((fun z9 : TS × BS × SS × US × Int32 => ew qe cI z9.1 ++ bw qb cI z9.2.1 ++ sw qs cI z9.2.2.1 ++ uw qu cI cB z9.2.2.2.1 ++ kw qk qb qr qe qs qu qx qd cI z9.2.2.2.2)) v9.1 ++ lo cL ao v9.2) (w0 := ew qe cI te ++ bw qb cI bs ++ sw qs cI s9 ++ uw qu cI cB u ++ kw qk qb qr qe qs qu qx qd cI kk ++ lo cL ao o) (wo := aw qr cI tr ++ xw qx cI x ++ dw qd cI cO eA rd ++ mw qm cI mm) (vx_runSW (mc := 4) (ms := 24) (As := [.ref (qk 0), .int (xs (nI i + 1).toNatClampNeg), .int (xs (nI i + 2).toNatClampNeg), .int (xs (nI i + 3).toNatClampNeg), .ref ao]) (rest := []) ⟨hx, hb, hml, hown, hts⟩ (mL_calibrate l hfl dC dI cI cB cO cL s.heap.size sT eA qe qb qs qu qk qr qx qd te bs s9 u kk (xs (nI i + 1).toNatClampNeg) (xs (nI i + 2).toNatClampNeg) (xs (nI i + 3).toNatClampNeg) ao o H.size hS.1 (gC_T hG [4, 0, 1, 2, 7, 9] rfl rfl) (gC_N hG [4, 0, 1, 2, 7, 9] rfl rfl) kC hc9) (vx_cwSW 5 hts gW_L_calibrate rfl rfl rfl (by decide +kernel) ⟨Nat.le_of_ble_eq_true rfl, Nat.le_of_ble_eq_true rfl⟩) ⟨lP_blind, lP_ok (A := xA s.heap.size) (va_P.app (va_P.app (va_P.app (va_P.app (va_P.app he9 hb9) hs9) hu9) hk9) ho9) hK hF hC hS (fun q h => h)⟩ rfl rfl hl.1 rfl (lv_room (Nat.le_of_ble_eq_true rfl)) dL_law_848 ⟨hcl, hsl⟩) (va_P.app (va_P.app (va_P.app hr9 hx9) hd9) hm9) (gC_T hG [4, 0, 1, 2, 7, 9, 3, 5, 6, 8] rfl rfl) (fun q h => mem_vA h) (fun q h => mem_vA h) (gC_N hG [4, 0, 1, 2, 7, 9] rfl rfl) hA hS (fun r9 v9 H locs hp hP hO hS => ?_)
  rw [e1, lF_eq] at hp
  obtain ⟨rfl, rfl⟩ := Prod.mk.inj hp
  have hm9 := va_P_suf hO
  have t329 := va_P_pre hO
  have hd9 := va_P_suf t329
  have t349 := va_P_pre t329
  have hx9 := va_P_suf t349
  have t369 := va_P_pre t349
  have hr9 := t369
  have hP : va_P (dC, dI) vwCl (ew qe cI te1 ++ bw qb cI b1 ++ sw qs cI s1 ++ uw qu cI cB u1 ++ kw qk qb qr qe qs qu qx qd cI kk ++ lo cL ao (oN c1 r1 o)) H := hP
  have ho9 := va_P_suf hP
  have t409 := va_P_pre hP
  have hk9 := va_P_suf t409
  have t429 := va_P_pre t409
  have hu9 := va_P_suf t429
  have t449 := va_P_pre t429
  have hs9 := va_P_suf t449
  have t469 := va_P_pre t449
  have hb9 := va_P_suf t469
  have t489 := va_P_pre t469
  have he9 := t489
  refine lv_istore (lv' := [(5, .int (rcN 2 c1)), (4, .int (nI i)), (3, .ref ao), (2, .ref (qm 0)), (1, .ref (qk 0)), (0, .ref b)]) hx hb dL_law_851 hl (by decide) rfl (fun ls hl => ?_)
  refine lv_aload_n hx hb dL_law_853 rfl (lv_at hl 3 rfl) ?_
  refine lv_aload_n hx hb dL_law_854 rfl (lv_at hl 5 rfl) ?_
  refine lv_iload hx hb dL_law_855 (lv_at hl 1 rfl) ?_
  refine lv_iconst (v := 1) hx hb dL_law_857 (by decide) ?_
  refine lv_iadd hx hb dL_law_858 ?_
  refine va_sld hx hb hX hbl (Nat.not_le.mpr hbl) hS (w_in (k := 1) hi hL (by omega)) dL_law_859 ?_
  refine lv_aload_n hx hb dL_law_860 rfl (lv_at hl 5 rfl) ?_
  refine lv_iload hx hb dL_law_861 (lv_at hl 1 rfl) ?_
  refine lv_iconst (v := 2) hx hb dL_law_863 (by decide) ?_
  refine lv_iadd hx hb dL_law_864 ?_
  refine va_sld hx hb hX hbl (Nat.not_le.mpr hbl) hS (w_in (k := 2) hi hL (by omega)) dL_law_865 ?_
  refine lv_aload_n hx hb dL_law_866 rfl (lv_at hl 5 rfl) ?_
  refine lv_iload hx hb dL_law_867 (lv_at hl 1 rfl) ?_
  refine lv_iconst (v := 3) hx hb dL_law_869 (by decide) ?_
  refine lv_iadd hx hb dL_law_870 ?_
  refine va_sld hx hb hX hbl (Nat.not_le.mpr hbl) hS (w_in (k := 3) hi hL (by omega)) dL_law_871 ?_
  refine i_call (Wd := fun m9 => mw qm cI m9) (w0 := mw qm cI mm) (wo := bw qb cI b1 ++ sw qs cI s1 ++ uw qu cI cB u1 ++ aw qr cI tr ++ ew qe cI te1 ++ xw qx cI x ++ dw qd cI cO eA rd ++ kw qk qb qr qe qs qu qx qd cI kk ++ lo cL ao (oN c1 r1 o)) (va_runV (mc := 0) (ms := 0) (As := [.int (xs (nI i + 1).toNatClampNeg), .int (xs (nI i + 2).toNatClampNeg), .int (xs (nI i + 3).toNatClampNeg)]) (rest := []) ⟨hx, hb, hml, hown, hts⟩ (mX12_calibrate l dC dI cI cB cO cL qm mm (xs (nI i + 1).toNatClampNeg) (xs (nI i + 2).toNatClampNeg) (xs (nI i + 3).toNatClampNeg) hIm kM) (cwV 3 hts gW_X12_calibrate rfl rfl rfl (by decide +kernel) ⟨Nat.le_of_ble_eq_true rfl, Nat.le_of_ble_eq_true rfl⟩) ⟨gP_blind, va_recv hK hm9 (ci := 9) (q0 := 0) rfl rfl, gP_ok hm9 hK⟩ rfl rfl hl.1 rfl (lv_room (Nat.le_of_ble_eq_true rfl)) dL_law_872 ⟨hcl0, hsl0⟩) (va_P.app (va_P.app (va_P.app (va_P.app (va_P.app (va_P.app (va_P.app (va_P.app hb9 hs9) hu9) hr9) he9) hx9) hd9) hk9) ho9) (gC_T hG [8, 0, 1, 2, 3, 4, 5, 6, 7, 9] rfl rfl) (fun q h => Or.inl (mem_wA h)) (fun q h => Or.inl (mem_wA h)) (gC_N hG [8] rfl rfl) hA hS (fun r2 m2 H locs hp2 hm9 hO hS => ?_)
  have hp2 : (r2, m2) = pX12_calibrate mm (xs (nI i + 1).toNatClampNeg) (xs (nI i + 2).toNatClampNeg) (xs (nI i + 3).toNatClampNeg) := hp2
  have ho9 := va_P_suf hO
  have t709 := va_P_pre hO
  have hk9 := va_P_suf t709
  have t729 := va_P_pre t709
  have hd9 := va_P_suf t729
  have t749 := va_P_pre t729
  have hx9 := va_P_suf t749
  have t769 := va_P_pre t749
  have he9 := va_P_suf t769
  have t789 := va_P_pre t769
  have hr9 := va_P_suf t789
  have t809 := va_P_pre t789
  have hu9 := va_P_suf t809
  have t829 := va_P_pre t809
  have hs9 := va_P_suf t829
  have t849 := va_P_pre t829
  have hb9 := t849
  have e2 : r2 = (pX12_calibrate mm (xs (nI i + 1).toNatClampNeg) (xs (nI i + 2).toNatClampNeg) (xs (nI i + 3).toNatClampNeg)).1 := by rw [← hp2]
  have e3 : m2 = (pX12_calibrate mm (xs (nI i + 1).toNatClampNeg) (xs (nI i + 2).toNatClampNeg) (xs (nI i + 3).toNatClampNeg)).2 := by rw [← hp2]
  rw [← e3] at hR h3
  rw [← e2] at h4
  refine lv_istore (lv' := [(6, .int r2), (5, .int (rcN 2 c1)), (4, .int (nI i)), (3, .ref ao), (2, .ref (qm 0)), (1, .ref (qk 0)), (0, .ref b)]) hx hb dL_law_875 hl (by decide) rfl (fun ls hl => ?_)
  refine lv_aload_n hx hb dL_law_877 rfl (lv_at hl 4 rfl) ?_
  refine gro_i (va_runV (mc := 0) (ms := 0) (As := []) (rest := []) ⟨hx, hb, hml, hown, hts⟩ (mX12_thrown l dC dI cI cB cO cL qm m2) (cwV 0 hts gW_X12_thrown rfl rfl rfl (by decide +kernel) ⟨Nat.le_of_ble_eq_true rfl, Nat.le_of_ble_eq_true rfl⟩) ⟨gP_blind, va_recv hK hm9 (ci := 9) (q0 := 0) rfl rfl, gP_ok hm9 hK⟩ rfl rfl hl.1 rfl (lv_room (Nat.le_of_ble_eq_true rfl)) dL_law_878 ⟨hcl0, hsl0⟩) ?_
  refine lv_iload hx hb dL_law_881 (lv_at hl 1 rfl) ?_
  refine lv_icmp_eq (tgt := 888) hx hb dL_law_883 (by decide) (fun _ => ?_) (fun h9 => absurd (show pX12_thrown m2 = rcN 2 c1 from h3.trans hmp.symm) h9)
  refine lv_iload hx hb dL_law_888 (lv_at hl 1 rfl) ?_
  refine lv_if_ne (tgt := 905) hx hb dL_law_890 (by decide) (fun _ => ?_) (fun h9 => ?_)
  · refine lv_goto (tgt := 1972) hx hb dL_law_905 (by decide) ?_
    exact hgo b1 s1 u1 tr te1 x rd kk m2 ((oN c1 r1 o)) _ _ _ ⟨hb9, hs9, hu9, hr9, he9, hx9, hd9, hk9, hm9, ho9⟩ hR hS (lv_sub hl [2, 3, 4, 5, 6] rfl)
  · refine lv_aload_n hx hb dL_law_893 rfl (lv_at hl 3 rfl) ?_
    refine lv_iconst (v := 0) hx hb dL_law_894 (by decide) ?_
    refine va_lald (D := (dC, dI)) (tys := tYS cI cB cO cL) hx hb hK ho9 0 3 rfl rfl (vp_in_n (i := 0) (by omega) (by omega)) dL_law_895 ?_
    refine lv_iload hx hb dL_law_896 (lv_at hl 0 rfl) ?_
    refine lv_i2l hx hb dL_law_898 rfl ?_
    refine W.lcmp hx hb dL_law_899 ?_
    refine lv_if_eq (tgt := 905) hx hb dL_law_900 (by decide) (fun _ => ?_) (fun h8 => absurd ((lg_cmp_eq _ _).mpr ?_) h8)
    · refine lv_goto (tgt := 1972) hx hb dL_law_905 (by decide) ?_
      exact hgo b1 s1 u1 tr te1 x rd kk m2 ((oN c1 r1 o)) _ _ _ ⟨hb9, hs9, hu9, hr9, he9, hx9, hd9, hk9, hm9, ho9⟩ hR hS (lv_sub hl [2, 3, 4, 5, 6] rfl)
    · have h7 := rcN_0 h9
      show oN c1 r1 o 0 = r2.toInt64
      rw [oN_0 h7, h4 h7]
set_option maxHeartbeats 4000000 in
set_option maxRecDepth 100000 in
theorem w_note (p : Program) (l : Launch) (e : Env) (s : State) (m : MethodId) (below : List Frame) (meth : Method) (c : Code) (b L : Nat) (xs : Nat → Int32) (dC : Nat → ClassId) (dI : Nat → Nat → Nat) (cI cB cO cL : ClassId) (sT eA qb qs qu qr qe qx qd qk qm : Nat → Nat) (ao : Nat) (hLS : LStart p l s m meth c b L xs (dC, dI) cI cB cO cL sT eA qb qs qu qr qe qx qd qk qm ao) (i : Nat) (hi : i + 6 ≤ L) (bs : BS) (s9 : SS) (u : US) (tr te x : TS) (rd : RS) (kk : Int32) (mm : MS) (o : Nat → Int64) (H : Heap) (locs : List Loc) (ls : Array Slot) (cells slots : Nat) (hcl : cells + 4 ≤ 601024) (hsl : slots + 24 ≤ 7293034) (hI : LI (dC, dI) cI cB cO cL eA qb qs qu qr qe qx qd qk qm ao bs s9 u tr te x rd kk mm o H) (hR : SR bs s9 u x kk mm) (hS : va_S (xA s.heap.size) s.heap H locs) (hl : lv_has ls 9 (lvL b ao qm qk i)) (hgo : LGo p l e s m below meth c b (dC, dI) cI cB cO cL eA qb qs qu qr qe qx qd qk qm ao i (cells + 4) (slots + 24)) : W p l e room_1 s m #[Value.ref b] below meth c H locs cells slots (lw_Z below #[Value.ref b] s) (F0 m 908 ls []) := by
  obtain ⟨hfl, ⟨hx, hb, hr, hml, hown, hts, hlocks⟩, hK, hF, hC, hX, hbl, hL, hG⟩ := hLS
  obtain ⟨hb9, hs9, hu9, hr9, he9, hx9, hd9, hk9, hm9, ho9⟩ := hI
  have hA : ∀ q : Nat, s.heap.size ≤ q → xA s.heap.size q := fun q h => h
  have hIm : gD (fun _ => True) (mAd qm) := gC_T hG [8] rfl rfl
  obtain ⟨c1, r1, e1, kC, kM, hR, ⟨h3, h4⟩, -⟩ := note_op hR (xs (nI i + 1).toNatClampNeg)
  have hc9 := cod_note (P := fun z => z = 0 ∨ z = 1) bs kk (xs (nI i + 1).toNatClampNeg) (by decide) (by decide)
  have hmp := cod_note (P := fun z => rcN 1 z = mpB z) bs kk (xs (nI i + 1).toNatClampNeg) (by decide) (by decide)
  rw [e1] at hmp
  have hmp : rcN 1 c1 = mpB c1 := hmp
  have hcl0 : cells + 4 + 0 ≤ 601024 := hcl
  have hsl0 : slots + 24 + 0 ≤ 7293034 := hsl
  refine lv_aload_n hx hb dL_law_908 rfl (lv_at hl 3 rfl) ?_
  refine lv_aload_n hx hb dL_law_909 rfl (lv_at hl 4 rfl) ?_
  refine lv_iload hx hb dL_law_910 (lv_at hl 0 rfl) ?_
  refine lv_iconst (v := 1) hx hb dL_law_912 (by decide) ?_
  refine lv_iadd hx hb dL_law_913 ?_
  refine va_sld hx hb hX hbl (Nat.not_le.mpr hbl) hS (w_in (k := 1) hi hL (by omega)) dL_law_914 ?_
  refine lv_aload_n hx hb dL_law_915 rfl (lv_at hl 1 rfl) ?_
  refine i_call (Wd := fun v9 : (BS × Int32) × (Nat → Int64) => ((fun z9 : BS × Int32 => bw qb cI z9.1 ++ kw qk qb qr qe qs qu qx qd cI z9.2)) v9.1 ++ lo cL ao v9.2) (w0 := bw qb cI bs ++ kw qk qb qr qe qs qu qx qd cI kk ++ lo cL ao o) (wo := sw qs cI s9 ++ uw qu cI cB u ++ aw qr cI tr ++ ew qe cI te ++ xw qx cI x ++ dw qd cI cO eA rd ++ mw qm cI mm) (vx_runSW (mc := 4) (ms := 24) (As := [.ref (qk 0), .int (xs (nI i + 1).toNatClampNeg), .ref ao]) (rest := []) ⟨hx, hb, hml, hown, hts⟩ (mL_note l hfl dC dI cI cB cO cL s.heap.size sT eA qb qk qr qe qs qu qx qd bs kk (xs (nI i + 1).toNatClampNeg) ao o H.size hS.1 (gC_T hG [0, 7, 9] rfl rfl) (gC_N hG [0, 7, 9] rfl rfl) kC hc9) (vx_cwSW 3 hts gW_L_note rfl rfl rfl (by decide +kernel) ⟨Nat.le_of_ble_eq_true rfl, Nat.le_of_ble_eq_true rfl⟩) ⟨lP_blind, lP_ok (A := xA s.heap.size) (va_P.app (va_P.app hb9 hk9) ho9) hK hF hC hS (fun q h => h)⟩ rfl rfl hl.1 rfl (lv_room (Nat.le_of_ble_eq_true rfl)) dL_law_916 ⟨hcl, hsl⟩) (va_P.app (va_P.app (va_P.app (va_P.app (va_P.app (va_P.app hs9 hu9) hr9) he9) hx9) hd9) hm9) (gC_T hG [0, 7, 9, 1, 2, 3, 4, 5, 6, 8] rfl rfl) (fun q h => mem_vA h) (fun q h => mem_vA h) (gC_N hG [0, 7, 9] rfl rfl) hA hS (fun r9 v9 H locs hp hP hO hS => ?_)
  rw [e1, lF_eq] at hp
  obtain ⟨rfl, rfl⟩ := Prod.mk.inj hp
  have hm9 := va_P_suf hO
  have t229 := va_P_pre hO
  have hd9 := va_P_suf t229
  have t249 := va_P_pre t229
  have hx9 := va_P_suf t249
  have t269 := va_P_pre t249
  have he9 := va_P_suf t269
  have t289 := va_P_pre t269
  have hr9 := va_P_suf t289
  have t309 := va_P_pre t289
  have hu9 := va_P_suf t309
  have t329 := va_P_pre t309
  have hs9 := t329
  have hP : va_P (dC, dI) vwCl (bw qb cI bs ++ kw qk qb qr qe qs qu qx qd cI kk ++ lo cL ao (oN c1 r1 o)) H := hP
  have ho9 := va_P_suf hP
  have t369 := va_P_pre hP
  have hk9 := va_P_suf t369
  have t389 := va_P_pre t369
  have hb9 := t389
  refine lv_istore (lv' := [(5, .int (rcN 1 c1)), (4, .int (nI i)), (3, .ref ao), (2, .ref (qm 0)), (1, .ref (qk 0)), (0, .ref b)]) hx hb dL_law_919 hl (by decide) rfl (fun ls hl => ?_)
  refine lv_aload_n hx hb dL_law_921 rfl (lv_at hl 3 rfl) ?_
  refine lv_aload_n hx hb dL_law_922 rfl (lv_at hl 5 rfl) ?_
  refine lv_iload hx hb dL_law_923 (lv_at hl 1 rfl) ?_
  refine lv_iconst (v := 1) hx hb dL_law_925 (by decide) ?_
  refine lv_iadd hx hb dL_law_926 ?_
  refine va_sld hx hb hX hbl (Nat.not_le.mpr hbl) hS (w_in (k := 1) hi hL (by omega)) dL_law_927 ?_
  refine i_call (Wd := fun m9 => mw qm cI m9) (w0 := mw qm cI mm) (wo := bw qb cI bs ++ sw qs cI s9 ++ uw qu cI cB u ++ aw qr cI tr ++ ew qe cI te ++ xw qx cI x ++ dw qd cI cO eA rd ++ kw qk qb qr qe qs qu qx qd cI kk ++ lo cL ao (oN c1 r1 o)) (va_runV (mc := 0) (ms := 0) (As := [.int (xs (nI i + 1).toNatClampNeg)]) (rest := []) ⟨hx, hb, hml, hown, hts⟩ (mX12_note l dC dI cI cB cO cL qm mm (xs (nI i + 1).toNatClampNeg) hIm kM) (cwV 1 hts gW_X12_note rfl rfl rfl (by decide +kernel) ⟨Nat.le_of_ble_eq_true rfl, Nat.le_of_ble_eq_true rfl⟩) ⟨gP_blind, va_recv hK hm9 (ci := 9) (q0 := 0) rfl rfl, gP_ok hm9 hK⟩ rfl rfl hl.1 rfl (lv_room (Nat.le_of_ble_eq_true rfl)) dL_law_928 ⟨hcl0, hsl0⟩) (va_P.app (va_P.app (va_P.app (va_P.app (va_P.app (va_P.app (va_P.app (va_P.app hb9 hs9) hu9) hr9) he9) hx9) hd9) hk9) ho9) (gC_T hG [8, 0, 1, 2, 3, 4, 5, 6, 7, 9] rfl rfl) (fun q h => Or.inl (mem_wA h)) (fun q h => Or.inl (mem_wA h)) (gC_N hG [8] rfl rfl) hA hS (fun r2 m2 H locs hp2 hm9 hO hS => ?_)
  have hp2 : (r2, m2) = pX12_note mm (xs (nI i + 1).toNatClampNeg) := hp2
  have ho9 := va_P_suf hO
  have t509 := va_P_pre hO
  have hk9 := va_P_suf t509
  have t529 := va_P_pre t509
  have hd9 := va_P_suf t529
  have t549 := va_P_pre t529
  have hx9 := va_P_suf t549
  have t569 := va_P_pre t549
  have he9 := va_P_suf t569
  have t589 := va_P_pre t569
  have hr9 := va_P_suf t589
  have t609 := va_P_pre t589
  have hu9 := va_P_suf t609
  have t629 := va_P_pre t609
  have hs9 := va_P_suf t629
  have t649 := va_P_pre t629
  have hb9 := t649
  have e2 : r2 = (pX12_note mm (xs (nI i + 1).toNatClampNeg)).1 := by rw [← hp2]
  have e3 : m2 = (pX12_note mm (xs (nI i + 1).toNatClampNeg)).2 := by rw [← hp2]
  rw [← e3] at hR h3
  rw [← e2] at h4
  refine lv_istore (lv' := [(6, .int r2), (5, .int (rcN 1 c1)), (4, .int (nI i)), (3, .ref ao), (2, .ref (qm 0)), (1, .ref (qk 0)), (0, .ref b)]) hx hb dL_law_931 hl (by decide) rfl (fun ls hl => ?_)
  refine lv_aload_n hx hb dL_law_933 rfl (lv_at hl 4 rfl) ?_
  refine gro_i (va_runV (mc := 0) (ms := 0) (As := []) (rest := []) ⟨hx, hb, hml, hown, hts⟩ (mX12_thrown l dC dI cI cB cO cL qm m2) (cwV 0 hts gW_X12_thrown rfl rfl rfl (by decide +kernel) ⟨Nat.le_of_ble_eq_true rfl, Nat.le_of_ble_eq_true rfl⟩) ⟨gP_blind, va_recv hK hm9 (ci := 9) (q0 := 0) rfl rfl, gP_ok hm9 hK⟩ rfl rfl hl.1 rfl (lv_room (Nat.le_of_ble_eq_true rfl)) dL_law_934 ⟨hcl0, hsl0⟩) ?_
  refine lv_iload hx hb dL_law_937 (lv_at hl 1 rfl) ?_
  refine lv_icmp_eq (tgt := 944) hx hb dL_law_939 (by decide) (fun _ => ?_) (fun h9 => absurd (show pX12_thrown m2 = rcN 1 c1 from h3.trans hmp.symm) h9)
  refine lv_iload hx hb dL_law_944 (lv_at hl 1 rfl) ?_
  refine lv_if_ne (tgt := 961) hx hb dL_law_946 (by decide) (fun _ => ?_) (fun h9 => ?_)
  · refine lv_goto (tgt := 1972) hx hb dL_law_961 (by decide) ?_
    exact hgo bs s9 u tr te x rd kk m2 ((oN c1 r1 o)) _ _ _ ⟨hb9, hs9, hu9, hr9, he9, hx9, hd9, hk9, hm9, ho9⟩ hR hS (lv_sub hl [2, 3, 4, 5, 6] rfl)
  · refine lv_aload_n hx hb dL_law_949 rfl (lv_at hl 3 rfl) ?_
    refine lv_iconst (v := 0) hx hb dL_law_950 (by decide) ?_
    refine va_lald (D := (dC, dI)) (tys := tYS cI cB cO cL) hx hb hK ho9 0 3 rfl rfl (vp_in_n (i := 0) (by omega) (by omega)) dL_law_951 ?_
    refine lv_iload hx hb dL_law_952 (lv_at hl 0 rfl) ?_
    refine lv_i2l hx hb dL_law_954 rfl ?_
    refine W.lcmp hx hb dL_law_955 ?_
    refine lv_if_eq (tgt := 961) hx hb dL_law_956 (by decide) (fun _ => ?_) (fun h8 => absurd ((lg_cmp_eq _ _).mpr ?_) h8)
    · refine lv_goto (tgt := 1972) hx hb dL_law_961 (by decide) ?_
      exact hgo bs s9 u tr te x rd kk m2 ((oN c1 r1 o)) _ _ _ ⟨hb9, hs9, hu9, hr9, he9, hx9, hd9, hk9, hm9, ho9⟩ hR hS (lv_sub hl [2, 3, 4, 5, 6] rfl)
    · have h7 := rcN_0 h9
      show oN c1 r1 o 0 = r2.toInt64
      rw [oN_0 h7, h4 h7]
set_option maxHeartbeats 4000000 in
set_option maxRecDepth 100000 in
theorem w_heard (p : Program) (l : Launch) (e : Env) (s : State) (m : MethodId) (below : List Frame) (meth : Method) (c : Code) (b L : Nat) (xs : Nat → Int32) (dC : Nat → ClassId) (dI : Nat → Nat → Nat) (cI cB cO cL : ClassId) (sT eA qb qs qu qr qe qx qd qk qm : Nat → Nat) (ao : Nat) (hLS : LStart p l s m meth c b L xs (dC, dI) cI cB cO cL sT eA qb qs qu qr qe qx qd qk qm ao) (i : Nat) (hi : i + 6 ≤ L) (bs : BS) (s9 : SS) (u : US) (tr te x : TS) (rd : RS) (kk : Int32) (mm : MS) (o : Nat → Int64) (H : Heap) (locs : List Loc) (ls : Array Slot) (cells slots : Nat) (hcl : cells + 4 ≤ 601024) (hsl : slots + 24 ≤ 7293034) (hI : LI (dC, dI) cI cB cO cL eA qb qs qu qr qe qx qd qk qm ao bs s9 u tr te x rd kk mm o H) (hR : SR bs s9 u x kk mm) (hS : va_S (xA s.heap.size) s.heap H locs) (hl : lv_has ls 9 (lvL b ao qm qk i)) (hgo : LGo p l e s m below meth c b (dC, dI) cI cB cO cL eA qb qs qu qr qe qx qd qk qm ao i (cells + 4) (slots + 24)) : W p l e room_1 s m #[Value.ref b] below meth c H locs cells slots (lw_Z below #[Value.ref b] s) (F0 m 964 ls []) := by
  obtain ⟨hfl, ⟨hx, hb, hr, hml, hown, hts, hlocks⟩, hK, hF, hC, hX, hbl, hL, hG⟩ := hLS
  obtain ⟨hb9, hs9, hu9, hr9, he9, hx9, hd9, hk9, hm9, ho9⟩ := hI
  have hA : ∀ q : Nat, s.heap.size ≤ q → xA s.heap.size q := fun q h => h
  have hIm : gD (fun _ => True) (mAd qm) := gC_T hG [8] rfl rfl
  obtain ⟨c1, r1, e1, kC, kM, hR, ⟨h3, h4⟩, -⟩ := heard_op hR (xs (nI i + 1).toNatClampNeg) (xs (nI i + 2).toNatClampNeg)
  have hc9 := cod_heard (P := fun z => z = 0 ∨ z = 1 ∨ z = 2) bs kk (xs (nI i + 1).toNatClampNeg) (xs (nI i + 2).toNatClampNeg) (by decide) (by decide) (by decide)
  have hmp := cod_heard (P := fun z => rcN 1 z = mpB z) bs kk (xs (nI i + 1).toNatClampNeg) (xs (nI i + 2).toNatClampNeg) (by decide) (by decide) (by decide)
  rw [e1] at hmp
  have hmp : rcN 1 c1 = mpB c1 := hmp
  have hcl0 : cells + 4 + 0 ≤ 601024 := hcl
  have hsl0 : slots + 24 + 0 ≤ 7293034 := hsl
  refine lv_aload_n hx hb dL_law_964 rfl (lv_at hl 3 rfl) ?_
  refine lv_aload_n hx hb dL_law_965 rfl (lv_at hl 4 rfl) ?_
  refine lv_iload hx hb dL_law_966 (lv_at hl 0 rfl) ?_
  refine lv_iconst (v := 1) hx hb dL_law_968 (by decide) ?_
  refine lv_iadd hx hb dL_law_969 ?_
  refine va_sld hx hb hX hbl (Nat.not_le.mpr hbl) hS (w_in (k := 1) hi hL (by omega)) dL_law_970 ?_
  refine lv_aload_n hx hb dL_law_971 rfl (lv_at hl 4 rfl) ?_
  refine lv_iload hx hb dL_law_972 (lv_at hl 0 rfl) ?_
  refine lv_iconst (v := 2) hx hb dL_law_974 (by decide) ?_
  refine lv_iadd hx hb dL_law_975 ?_
  refine va_sld hx hb hX hbl (Nat.not_le.mpr hbl) hS (w_in (k := 2) hi hL (by omega)) dL_law_976 ?_
  refine lv_aload_n hx hb dL_law_977 rfl (lv_at hl 1 rfl) ?_
  refine i_call (Wd := fun v9 : (BS × Int32) × (Nat → Int64) => ((fun z9 : BS × Int32 => bw qb cI z9.1 ++ kw qk qb qr qe qs qu qx qd cI z9.2)) v9.1 ++ lo cL ao v9.2) (w0 := bw qb cI bs ++ kw qk qb qr qe qs qu qx qd cI kk ++ lo cL ao o) (wo := sw qs cI s9 ++ uw qu cI cB u ++ aw qr cI tr ++ ew qe cI te ++ xw qx cI x ++ dw qd cI cO eA rd ++ mw qm cI mm) (vx_runSW (mc := 4) (ms := 24) (As := [.ref (qk 0), .int (xs (nI i + 1).toNatClampNeg), .int (xs (nI i + 2).toNatClampNeg), .ref ao]) (rest := []) ⟨hx, hb, hml, hown, hts⟩ (mL_heard l hfl dC dI cI cB cO cL s.heap.size sT eA qb qk qr qe qs qu qx qd bs kk (xs (nI i + 1).toNatClampNeg) (xs (nI i + 2).toNatClampNeg) ao o H.size hS.1 (gC_T hG [0, 7, 9] rfl rfl) (gC_N hG [0, 7, 9] rfl rfl) kC hc9) (vx_cwSW 4 hts gW_L_heard rfl rfl rfl (by decide +kernel) ⟨Nat.le_of_ble_eq_true rfl, Nat.le_of_ble_eq_true rfl⟩) ⟨lP_blind, lP_ok (A := xA s.heap.size) (va_P.app (va_P.app hb9 hk9) ho9) hK hF hC hS (fun q h => h)⟩ rfl rfl hl.1 rfl (lv_room (Nat.le_of_ble_eq_true rfl)) dL_law_978 ⟨hcl, hsl⟩) (va_P.app (va_P.app (va_P.app (va_P.app (va_P.app (va_P.app hs9 hu9) hr9) he9) hx9) hd9) hm9) (gC_T hG [0, 7, 9, 1, 2, 3, 4, 5, 6, 8] rfl rfl) (fun q h => mem_vA h) (fun q h => mem_vA h) (gC_N hG [0, 7, 9] rfl rfl) hA hS (fun r9 v9 H locs hp hP hO hS => ?_)
  rw [e1, lF_eq] at hp
  obtain ⟨rfl, rfl⟩ := Prod.mk.inj hp
  have hm9 := va_P_suf hO
  have t279 := va_P_pre hO
  have hd9 := va_P_suf t279
  have t299 := va_P_pre t279
  have hx9 := va_P_suf t299
  have t319 := va_P_pre t299
  have he9 := va_P_suf t319
  have t339 := va_P_pre t319
  have hr9 := va_P_suf t339
  have t359 := va_P_pre t339
  have hu9 := va_P_suf t359
  have t379 := va_P_pre t359
  have hs9 := t379
  have hP : va_P (dC, dI) vwCl (bw qb cI bs ++ kw qk qb qr qe qs qu qx qd cI kk ++ lo cL ao (oN c1 r1 o)) H := hP
  have ho9 := va_P_suf hP
  have t419 := va_P_pre hP
  have hk9 := va_P_suf t419
  have t439 := va_P_pre t419
  have hb9 := t439
  refine lv_istore (lv' := [(5, .int (rcN 1 c1)), (4, .int (nI i)), (3, .ref ao), (2, .ref (qm 0)), (1, .ref (qk 0)), (0, .ref b)]) hx hb dL_law_981 hl (by decide) rfl (fun ls hl => ?_)
  refine lv_aload_n hx hb dL_law_983 rfl (lv_at hl 3 rfl) ?_
  refine lv_aload_n hx hb dL_law_984 rfl (lv_at hl 5 rfl) ?_
  refine lv_iload hx hb dL_law_985 (lv_at hl 1 rfl) ?_
  refine lv_iconst (v := 1) hx hb dL_law_987 (by decide) ?_
  refine lv_iadd hx hb dL_law_988 ?_
  refine va_sld hx hb hX hbl (Nat.not_le.mpr hbl) hS (w_in (k := 1) hi hL (by omega)) dL_law_989 ?_
  refine lv_aload_n hx hb dL_law_990 rfl (lv_at hl 5 rfl) ?_
  refine lv_iload hx hb dL_law_991 (lv_at hl 1 rfl) ?_
  refine lv_iconst (v := 2) hx hb dL_law_993 (by decide) ?_
  refine lv_iadd hx hb dL_law_994 ?_
  refine va_sld hx hb hX hbl (Nat.not_le.mpr hbl) hS (w_in (k := 2) hi hL (by omega)) dL_law_995 ?_
  refine i_call (Wd := fun m9 => mw qm cI m9) (w0 := mw qm cI mm) (wo := bw qb cI bs ++ sw qs cI s9 ++ uw qu cI cB u ++ aw qr cI tr ++ ew qe cI te ++ xw qx cI x ++ dw qd cI cO eA rd ++ kw qk qb qr qe qs qu qx qd cI kk ++ lo cL ao (oN c1 r1 o)) (va_runV (mc := 0) (ms := 0) (As := [.int (xs (nI i + 1).toNatClampNeg), .int (xs (nI i + 2).toNatClampNeg)]) (rest := []) ⟨hx, hb, hml, hown, hts⟩ (mX12_heard l dC dI cI cB cO cL qm mm (xs (nI i + 1).toNatClampNeg) (xs (nI i + 2).toNatClampNeg) hIm kM) (cwV 2 hts gW_X12_heard rfl rfl rfl (by decide +kernel) ⟨Nat.le_of_ble_eq_true rfl, Nat.le_of_ble_eq_true rfl⟩) ⟨gP_blind, va_recv hK hm9 (ci := 9) (q0 := 0) rfl rfl, gP_ok hm9 hK⟩ rfl rfl hl.1 rfl (lv_room (Nat.le_of_ble_eq_true rfl)) dL_law_996 ⟨hcl0, hsl0⟩) (va_P.app (va_P.app (va_P.app (va_P.app (va_P.app (va_P.app (va_P.app (va_P.app hb9 hs9) hu9) hr9) he9) hx9) hd9) hk9) ho9) (gC_T hG [8, 0, 1, 2, 3, 4, 5, 6, 7, 9] rfl rfl) (fun q h => Or.inl (mem_wA h)) (fun q h => Or.inl (mem_wA h)) (gC_N hG [8] rfl rfl) hA hS (fun r2 m2 H locs hp2 hm9 hO hS => ?_)
  have hp2 : (r2, m2) = pX12_heard mm (xs (nI i + 1).toNatClampNeg) (xs (nI i + 2).toNatClampNeg) := hp2
  have ho9 := va_P_suf hO
  have t609 := va_P_pre hO
  have hk9 := va_P_suf t609
  have t629 := va_P_pre t609
  have hd9 := va_P_suf t629
  have t649 := va_P_pre t629
  have hx9 := va_P_suf t649
  have t669 := va_P_pre t649
  have he9 := va_P_suf t669
  have t689 := va_P_pre t669
  have hr9 := va_P_suf t689
  have t709 := va_P_pre t689
  have hu9 := va_P_suf t709
  have t729 := va_P_pre t709
  have hs9 := va_P_suf t729
  have t749 := va_P_pre t729
  have hb9 := t749
  have e2 : r2 = (pX12_heard mm (xs (nI i + 1).toNatClampNeg) (xs (nI i + 2).toNatClampNeg)).1 := by rw [← hp2]
  have e3 : m2 = (pX12_heard mm (xs (nI i + 1).toNatClampNeg) (xs (nI i + 2).toNatClampNeg)).2 := by rw [← hp2]
  rw [← e3] at hR h3
  rw [← e2] at h4
  refine lv_istore (lv' := [(6, .int r2), (5, .int (rcN 1 c1)), (4, .int (nI i)), (3, .ref ao), (2, .ref (qm 0)), (1, .ref (qk 0)), (0, .ref b)]) hx hb dL_law_999 hl (by decide) rfl (fun ls hl => ?_)
  refine lv_aload_n hx hb dL_law_1001 rfl (lv_at hl 4 rfl) ?_
  refine gro_i (va_runV (mc := 0) (ms := 0) (As := []) (rest := []) ⟨hx, hb, hml, hown, hts⟩ (mX12_thrown l dC dI cI cB cO cL qm m2) (cwV 0 hts gW_X12_thrown rfl rfl rfl (by decide +kernel) ⟨Nat.le_of_ble_eq_true rfl, Nat.le_of_ble_eq_true rfl⟩) ⟨gP_blind, va_recv hK hm9 (ci := 9) (q0 := 0) rfl rfl, gP_ok hm9 hK⟩ rfl rfl hl.1 rfl (lv_room (Nat.le_of_ble_eq_true rfl)) dL_law_1002 ⟨hcl0, hsl0⟩) ?_
  refine lv_iload hx hb dL_law_1005 (lv_at hl 1 rfl) ?_
  refine lv_icmp_eq (tgt := 1012) hx hb dL_law_1007 (by decide) (fun _ => ?_) (fun h9 => absurd (show pX12_thrown m2 = rcN 1 c1 from h3.trans hmp.symm) h9)
  refine lv_iload hx hb dL_law_1012 (lv_at hl 1 rfl) ?_
  refine lv_if_ne (tgt := 1029) hx hb dL_law_1014 (by decide) (fun _ => ?_) (fun h9 => ?_)
  · refine lv_goto (tgt := 1972) hx hb dL_law_1029 (by decide) ?_
    exact hgo bs s9 u tr te x rd kk m2 ((oN c1 r1 o)) _ _ _ ⟨hb9, hs9, hu9, hr9, he9, hx9, hd9, hk9, hm9, ho9⟩ hR hS (lv_sub hl [2, 3, 4, 5, 6] rfl)
  · refine lv_aload_n hx hb dL_law_1017 rfl (lv_at hl 3 rfl) ?_
    refine lv_iconst (v := 0) hx hb dL_law_1018 (by decide) ?_
    refine va_lald (D := (dC, dI)) (tys := tYS cI cB cO cL) hx hb hK ho9 0 3 rfl rfl (vp_in_n (i := 0) (by omega) (by omega)) dL_law_1019 ?_
    refine lv_iload hx hb dL_law_1020 (lv_at hl 0 rfl) ?_
    refine lv_i2l hx hb dL_law_1022 rfl ?_
    refine W.lcmp hx hb dL_law_1023 ?_
    refine lv_if_eq (tgt := 1029) hx hb dL_law_1024 (by decide) (fun _ => ?_) (fun h8 => absurd ((lg_cmp_eq _ _).mpr ?_) h8)
    · refine lv_goto (tgt := 1972) hx hb dL_law_1029 (by decide) ?_
      exact hgo bs s9 u tr te x rd kk m2 ((oN c1 r1 o)) _ _ _ ⟨hb9, hs9, hu9, hr9, he9, hx9, hd9, hk9, hm9, ho9⟩ hR hS (lv_sub hl [2, 3, 4, 5, 6] rfl)
    · have h7 := rcN_0 h9
      show oN c1 r1 o 0 = r2.toInt64
      rw [oN_0 h7, h4 h7]
end CASES1
