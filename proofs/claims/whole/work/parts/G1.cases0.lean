/-! THE LAW: cases of its loop (0) -/
section CASES0
set_option maxHeartbeats 4000000 in
set_option maxRecDepth 100000 in
theorem w_begin (p : Program) (l : Launch) (e : Env) (s : State) (m : MethodId) (below : List Frame) (meth : Method) (c : Code) (b L : Nat) (xs : Nat → Int32) (dC : Nat → ClassId) (dI : Nat → Nat → Nat) (cI cB cO cL : ClassId) (sT eA qb qs qu qr qe qx qd qk qm : Nat → Nat) (ao : Nat) (hLS : LStart p l s m meth c b L xs (dC, dI) cI cB cO cL sT eA qb qs qu qr qe qx qd qk qm ao) (i : Nat) (hi : i + 6 ≤ L) (bs : BS) (s9 : SS) (u : US) (tr te x : TS) (rd : RS) (kk : Int32) (mm : MS) (o : Nat → Int64) (H : Heap) (locs : List Loc) (ls : Array Slot) (cells slots : Nat) (hcl : cells + 4 ≤ 601024) (hsl : slots + 24 ≤ 7293034) (hI : LI (dC, dI) cI cB cO cL eA qb qs qu qr qe qx qd qk qm ao bs s9 u tr te x rd kk mm o H) (hR : SR bs s9 u x kk mm) (hS : va_S (xA s.heap.size) s.heap H locs) (hl : lv_has ls 9 (lvL b ao qm qk i)) (hgo : LGo p l e s m below meth c b (dC, dI) cI cB cO cL eA qb qs qu qr qe qx qd qk qm ao i (cells + 4) (slots + 24)) : W p l e room_1 s m #[Value.ref b] below meth c H locs cells slots (lw_Z below #[Value.ref b] s) (F0 m 180 ls []) := by
  obtain ⟨hfl, ⟨hx, hb, hr, hml, hown, hts, hlocks⟩, hK, hF, hC, hX, hbl, hL, hG⟩ := hLS
  obtain ⟨hb9, hs9, hu9, hr9, he9, hx9, hd9, hk9, hm9, ho9⟩ := hI
  have hA : ∀ q : Nat, s.heap.size ≤ q → xA s.heap.size q := fun q h => h
  have hIm : gD (fun _ => True) (mAd qm) := gC_T hG [8] rfl rfl
  obtain ⟨c1, r1, b1, s1, u1, e1, kC, kM, hR, ⟨h3, h4⟩, -⟩ := begin_op hR (xs (nI i + 1).toNatClampNeg) (xs (nI i + 2).toNatClampNeg)
  have hc9 := cod_begin (P := fun z => z = 0 ∨ z = 2) bs s9 u kk (xs (nI i + 1).toNatClampNeg) (xs (nI i + 2).toNatClampNeg) (by decide) (by decide)
  have hmp := cod_begin (P := fun z => rcN 2 z = mpA z) bs s9 u kk (xs (nI i + 1).toNatClampNeg) (xs (nI i + 2).toNatClampNeg) (by decide) (by decide)
  rw [e1] at hmp
  have hmp : rcN 2 c1 = mpA c1 := hmp
  have hcl0 : cells + 4 + 0 ≤ 601024 := hcl
  have hsl0 : slots + 24 + 0 ≤ 7293034 := hsl
  refine lv_aload_n hx hb dL_law_180 rfl (lv_at hl 3 rfl) ?_
  refine lv_aload_n hx hb dL_law_181 rfl (lv_at hl 4 rfl) ?_
  refine lv_iload hx hb dL_law_182 (lv_at hl 0 rfl) ?_
  refine lv_iconst (v := 1) hx hb dL_law_184 (by decide) ?_
  refine lv_iadd hx hb dL_law_185 ?_
  refine va_sld hx hb hX hbl (Nat.not_le.mpr hbl) hS (w_in (k := 1) hi hL (by omega)) dL_law_186 ?_
  refine lv_aload_n hx hb dL_law_187 rfl (lv_at hl 4 rfl) ?_
  refine lv_iload hx hb dL_law_188 (lv_at hl 0 rfl) ?_
  refine lv_iconst (v := 2) hx hb dL_law_190 (by decide) ?_
  refine lv_iadd hx hb dL_law_191 ?_
  refine va_sld hx hb hX hbl (Nat.not_le.mpr hbl) hS (w_in (k := 2) hi hL (by omega)) dL_law_192 ?_
  refine lv_aload_n hx hb dL_law_193 rfl (lv_at hl 1 rfl) ?_
  refine i_call (Wd := fun v9 : (BS × SS × US × Int32) × (Nat → Int64) => ((fun z9 : BS × SS × US × Int32 => bw qb cI z9.1 ++ sw qs cI z9.2.1 ++ uw qu cI cB z9.2.2.1 ++ kw qk qb qr qe qs qu qx qd cI z9.2.2.2)) v9.1 ++ lo cL ao v9.2) (w0 := bw qb cI bs ++ sw qs cI s9 ++ uw qu cI cB u ++ kw qk qb qr qe qs qu qx qd cI kk ++ lo cL ao o) (wo := aw qr cI tr ++ ew qe cI te ++ xw qx cI x ++ dw qd cI cO eA rd ++ mw qm cI mm) (vx_runSW (mc := 4) (ms := 24) (As := [.ref (qk 0), .int (xs (nI i + 1).toNatClampNeg), .int (xs (nI i + 2).toNatClampNeg), .ref ao]) (rest := []) ⟨hx, hb, hml, hown, hts⟩ (mL_begin l hfl dC dI cI cB cO cL s.heap.size sT eA qb qs qu qk qr qe qx qd bs s9 u kk (xs (nI i + 1).toNatClampNeg) (xs (nI i + 2).toNatClampNeg) ao o H.size hS.1 (gC_T hG [0, 1, 2, 7, 9] rfl rfl) (gC_N hG [0, 1, 2, 7, 9] rfl rfl) kC hc9) (vx_cwSW 4 hts gW_L_begin rfl rfl rfl (by decide +kernel) ⟨Nat.le_of_ble_eq_true rfl, Nat.le_of_ble_eq_true rfl⟩) ⟨lP_blind, lP_ok (A := xA s.heap.size) (va_P.app (va_P.app (va_P.app (va_P.app hb9 hs9) hu9) hk9) ho9) hK hF hC hS (fun q h => h)⟩ rfl rfl hl.1 rfl (lv_room (Nat.le_of_ble_eq_true rfl)) dL_law_194 ⟨hcl, hsl⟩) (va_P.app (va_P.app (va_P.app (va_P.app hr9 he9) hx9) hd9) hm9) (gC_T hG [0, 1, 2, 7, 9, 3, 4, 5, 6, 8] rfl rfl) (fun q h => mem_vA h) (fun q h => mem_vA h) (gC_N hG [0, 1, 2, 7, 9] rfl rfl) hA hS (fun r9 v9 H locs hp hP hO hS => ?_)
  rw [e1, lF_eq] at hp
  obtain ⟨rfl, rfl⟩ := Prod.mk.inj hp
  have hm9 := va_P_suf hO
  have t279 := va_P_pre hO
  have hd9 := va_P_suf t279
  have t299 := va_P_pre t279
  have hx9 := va_P_suf t299
  have t319 := va_P_pre t299
  have he9 := va_P_suf t319
  have t339 := va_P_pre t319
  have hr9 := t339
  have hP : va_P (dC, dI) vwCl (bw qb cI b1 ++ sw qs cI s1 ++ uw qu cI cB u1 ++ kw qk qb qr qe qs qu qx qd cI kk ++ lo cL ao (oN c1 r1 o)) H := hP
  have ho9 := va_P_suf hP
  have t379 := va_P_pre hP
  have hk9 := va_P_suf t379
  have t399 := va_P_pre t379
  have hu9 := va_P_suf t399
  have t419 := va_P_pre t399
  have hs9 := va_P_suf t419
  have t439 := va_P_pre t419
  have hb9 := t439
  refine lv_istore (lv' := [(5, .int (rcN 2 c1)), (4, .int (nI i)), (3, .ref ao), (2, .ref (qm 0)), (1, .ref (qk 0)), (0, .ref b)]) hx hb dL_law_197 hl (by decide) rfl (fun ls hl => ?_)
  refine lv_aload_n hx hb dL_law_199 rfl (lv_at hl 3 rfl) ?_
  refine lv_aload_n hx hb dL_law_200 rfl (lv_at hl 5 rfl) ?_
  refine lv_iload hx hb dL_law_201 (lv_at hl 1 rfl) ?_
  refine lv_iconst (v := 1) hx hb dL_law_203 (by decide) ?_
  refine lv_iadd hx hb dL_law_204 ?_
  refine va_sld hx hb hX hbl (Nat.not_le.mpr hbl) hS (w_in (k := 1) hi hL (by omega)) dL_law_205 ?_
  refine lv_aload_n hx hb dL_law_206 rfl (lv_at hl 5 rfl) ?_
  refine lv_iload hx hb dL_law_207 (lv_at hl 1 rfl) ?_
  refine lv_iconst (v := 2) hx hb dL_law_209 (by decide) ?_
  refine lv_iadd hx hb dL_law_210 ?_
  refine va_sld hx hb hX hbl (Nat.not_le.mpr hbl) hS (w_in (k := 2) hi hL (by omega)) dL_law_211 ?_
  refine i_call (Wd := fun m9 => mw qm cI m9) (w0 := mw qm cI mm) (wo := bw qb cI b1 ++ sw qs cI s1 ++ uw qu cI cB u1 ++ aw qr cI tr ++ ew qe cI te ++ xw qx cI x ++ dw qd cI cO eA rd ++ kw qk qb qr qe qs qu qx qd cI kk ++ lo cL ao (oN c1 r1 o)) (va_runV (mc := 0) (ms := 0) (As := [.int (xs (nI i + 1).toNatClampNeg), .int (xs (nI i + 2).toNatClampNeg)]) (rest := []) ⟨hx, hb, hml, hown, hts⟩ (mX12_begin l dC dI cI cB cO cL qm mm (xs (nI i + 1).toNatClampNeg) (xs (nI i + 2).toNatClampNeg) hIm kM) (cwV 2 hts gW_X12_begin rfl rfl rfl (by decide +kernel) ⟨Nat.le_of_ble_eq_true rfl, Nat.le_of_ble_eq_true rfl⟩) ⟨gP_blind, va_recv hK hm9 (ci := 9) (q0 := 0) rfl rfl, gP_ok hm9 hK⟩ rfl rfl hl.1 rfl (lv_room (Nat.le_of_ble_eq_true rfl)) dL_law_212 ⟨hcl0, hsl0⟩) (va_P.app (va_P.app (va_P.app (va_P.app (va_P.app (va_P.app (va_P.app (va_P.app hb9 hs9) hu9) hr9) he9) hx9) hd9) hk9) ho9) (gC_T hG [8, 0, 1, 2, 3, 4, 5, 6, 7, 9] rfl rfl) (fun q h => Or.inl (mem_wA h)) (fun q h => Or.inl (mem_wA h)) (gC_N hG [8] rfl rfl) hA hS (fun r2 m2 H locs hp2 hm9 hO hS => ?_)
  have hp2 : (r2, m2) = pX12_begin mm (xs (nI i + 1).toNatClampNeg) (xs (nI i + 2).toNatClampNeg) := hp2
  have ho9 := va_P_suf hO
  have t609 := va_P_pre hO
  have hk9 := va_P_suf t609
  have t629 := va_P_pre t609
  have hd9 := va_P_suf t629
  have t649 := va_P_pre t629
  have hx9 := va_P_suf t649
  have t669 := va_P_pre t649
  have he9 := va_P_suf t669
  have t689 := va_P_pre t669
  have hr9 := va_P_suf t689
  have t709 := va_P_pre t689
  have hu9 := va_P_suf t709
  have t729 := va_P_pre t709
  have hs9 := va_P_suf t729
  have t749 := va_P_pre t729
  have hb9 := t749
  have e2 : r2 = (pX12_begin mm (xs (nI i + 1).toNatClampNeg) (xs (nI i + 2).toNatClampNeg)).1 := by rw [← hp2]
  have e3 : m2 = (pX12_begin mm (xs (nI i + 1).toNatClampNeg) (xs (nI i + 2).toNatClampNeg)).2 := by rw [← hp2]
  rw [← e3] at hR h3
  rw [← e2] at h4
  refine lv_istore (lv' := [(6, .int r2), (5, .int (rcN 2 c1)), (4, .int (nI i)), (3, .ref ao), (2, .ref (qm 0)), (1, .ref (qk 0)), (0, .ref b)]) hx hb dL_law_215 hl (by decide) rfl (fun ls hl => ?_)
  refine lv_aload_n hx hb dL_law_217 rfl (lv_at hl 4 rfl) ?_
  refine gro_i (va_runV (mc := 0) (ms := 0) (As := []) (rest := []) ⟨hx, hb, hml, hown, hts⟩ (mX12_thrown l dC dI cI cB cO cL qm m2) (cwV 0 hts gW_X12_thrown rfl rfl rfl (by decide +kernel) ⟨Nat.le_of_ble_eq_true rfl, Nat.le_of_ble_eq_true rfl⟩) ⟨gP_blind, va_recv hK hm9 (ci := 9) (q0 := 0) rfl rfl, gP_ok hm9 hK⟩ rfl rfl hl.1 rfl (lv_room (Nat.le_of_ble_eq_true rfl)) dL_law_218 ⟨hcl0, hsl0⟩) ?_
  refine lv_iload hx hb dL_law_221 (lv_at hl 1 rfl) ?_
  refine lv_icmp_eq (tgt := 228) hx hb dL_law_223 (by decide) (fun _ => ?_) (fun h9 => absurd (show pX12_thrown m2 = rcN 2 c1 from h3.trans hmp.symm) h9)
  refine lv_iload hx hb dL_law_228 (lv_at hl 1 rfl) ?_
  refine lv_if_ne (tgt := 245) hx hb dL_law_230 (by decide) (fun _ => ?_) (fun h9 => ?_)
  · refine lv_goto (tgt := 1972) hx hb dL_law_245 (by decide) ?_
    exact hgo b1 s1 u1 tr te x rd kk m2 ((oN c1 r1 o)) _ _ _ ⟨hb9, hs9, hu9, hr9, he9, hx9, hd9, hk9, hm9, ho9⟩ hR hS (lv_sub hl [2, 3, 4, 5, 6] rfl)
  · refine lv_aload_n hx hb dL_law_233 rfl (lv_at hl 3 rfl) ?_
    refine lv_iconst (v := 0) hx hb dL_law_234 (by decide) ?_
    refine va_lald (D := (dC, dI)) (tys := tYS cI cB cO cL) hx hb hK ho9 0 3 rfl rfl (vp_in_n (i := 0) (by omega) (by omega)) dL_law_235 ?_
    refine lv_iload hx hb dL_law_236 (lv_at hl 0 rfl) ?_
    refine lv_i2l hx hb dL_law_238 rfl ?_
    refine W.lcmp hx hb dL_law_239 ?_
    refine lv_if_eq (tgt := 245) hx hb dL_law_240 (by decide) (fun _ => ?_) (fun h8 => absurd ((lg_cmp_eq _ _).mpr ?_) h8)
    · refine lv_goto (tgt := 1972) hx hb dL_law_245 (by decide) ?_
      exact hgo b1 s1 u1 tr te x rd kk m2 ((oN c1 r1 o)) _ _ _ ⟨hb9, hs9, hu9, hr9, he9, hx9, hd9, hk9, hm9, ho9⟩ hR hS (lv_sub hl [2, 3, 4, 5, 6] rfl)
    · have h7 := rcN_0 h9
      show oN c1 r1 o 0 = r2.toInt64
      rw [oN_0 h7, h4 h7]
set_option maxHeartbeats 4000000 in
set_option maxRecDepth 100000 in
theorem w_addMicrophone (p : Program) (l : Launch) (e : Env) (s : State) (m : MethodId) (below : List Frame) (meth : Method) (c : Code) (b L : Nat) (xs : Nat → Int32) (dC : Nat → ClassId) (dI : Nat → Nat → Nat) (cI cB cO cL : ClassId) (sT eA qb qs qu qr qe qx qd qk qm : Nat → Nat) (ao : Nat) (hLS : LStart p l s m meth c b L xs (dC, dI) cI cB cO cL sT eA qb qs qu qr qe qx qd qk qm ao) (i : Nat) (hi : i + 6 ≤ L) (bs : BS) (s9 : SS) (u : US) (tr te x : TS) (rd : RS) (kk : Int32) (mm : MS) (o : Nat → Int64) (H : Heap) (locs : List Loc) (ls : Array Slot) (cells slots : Nat) (hcl : cells + 4 ≤ 601024) (hsl : slots + 24 ≤ 7293034) (hI : LI (dC, dI) cI cB cO cL eA qb qs qu qr qe qx qd qk qm ao bs s9 u tr te x rd kk mm o H) (hR : SR bs s9 u x kk mm) (hS : va_S (xA s.heap.size) s.heap H locs) (hl : lv_has ls 9 (lvL b ao qm qk i)) (hgo : LGo p l e s m below meth c b (dC, dI) cI cB cO cL eA qb qs qu qr qe qx qd qk qm ao i (cells + 4) (slots + 24)) : W p l e room_1 s m #[Value.ref b] below meth c H locs cells slots (lw_Z below #[Value.ref b] s) (F0 m 248 ls []) := by
  obtain ⟨hfl, ⟨hx, hb, hr, hml, hown, hts, hlocks⟩, hK, hF, hC, hX, hbl, hL, hG⟩ := hLS
  obtain ⟨hb9, hs9, hu9, hr9, he9, hx9, hd9, hk9, hm9, ho9⟩ := hI
  have hA : ∀ q : Nat, s.heap.size ≤ q → xA s.heap.size q := fun q h => h
  have hIm : gD (fun _ => True) (mAd qm) := gC_T hG [8] rfl rfl
  obtain ⟨c1, r1, b1, s1, u1, e1, kC, kM, hR, ⟨h3, h4⟩, -⟩ := mic_op hR (xs (nI i + 1).toNatClampNeg) (xs (nI i + 2).toNatClampNeg)
  have hc9 := cod_addMicrophone (P := fun z => z = 0 ∨ z = 2 ∨ z = 3) bs s9 u kk (xs (nI i + 1).toNatClampNeg) (xs (nI i + 2).toNatClampNeg) (by decide) (by decide) (by decide)
  have hmp := cod_addMicrophone (P := fun z => rcN 2 z = mpA z) bs s9 u kk (xs (nI i + 1).toNatClampNeg) (xs (nI i + 2).toNatClampNeg) (by decide) (by decide) (by decide)
  rw [e1] at hmp
  have hmp : rcN 2 c1 = mpA c1 := hmp
  have hcl0 : cells + 4 + 0 ≤ 601024 := hcl
  have hsl0 : slots + 24 + 0 ≤ 7293034 := hsl
  refine lv_aload_n hx hb dL_law_248 rfl (lv_at hl 3 rfl) ?_
  refine lv_aload_n hx hb dL_law_249 rfl (lv_at hl 4 rfl) ?_
  refine lv_iload hx hb dL_law_250 (lv_at hl 0 rfl) ?_
  refine lv_iconst (v := 1) hx hb dL_law_252 (by decide) ?_
  refine lv_iadd hx hb dL_law_253 ?_
  refine va_sld hx hb hX hbl (Nat.not_le.mpr hbl) hS (w_in (k := 1) hi hL (by omega)) dL_law_254 ?_
  refine lv_aload_n hx hb dL_law_255 rfl (lv_at hl 4 rfl) ?_
  refine lv_iload hx hb dL_law_256 (lv_at hl 0 rfl) ?_
  refine lv_iconst (v := 2) hx hb dL_law_258 (by decide) ?_
  refine lv_iadd hx hb dL_law_259 ?_
  refine va_sld hx hb hX hbl (Nat.not_le.mpr hbl) hS (w_in (k := 2) hi hL (by omega)) dL_law_260 ?_
  refine lv_aload_n hx hb dL_law_261 rfl (lv_at hl 1 rfl) ?_
  refine i_call (Wd := fun v9 : (BS × SS × US × Int32) × (Nat → Int64) => ((fun z9 : BS × SS × US × Int32 => bw qb cI z9.1 ++ sw qs cI z9.2.1 ++ uw qu cI cB z9.2.2.1 ++ kw qk qb qr qe qs qu qx qd cI z9.2.2.2)) v9.1 ++ lo cL ao v9.2) (w0 := bw qb cI bs ++ sw qs cI s9 ++ uw qu cI cB u ++ kw qk qb qr qe qs qu qx qd cI kk ++ lo cL ao o) (wo := aw qr cI tr ++ ew qe cI te ++ xw qx cI x ++ dw qd cI cO eA rd ++ mw qm cI mm) (vx_runSW (mc := 4) (ms := 24) (As := [.ref (qk 0), .int (xs (nI i + 1).toNatClampNeg), .int (xs (nI i + 2).toNatClampNeg), .ref ao]) (rest := []) ⟨hx, hb, hml, hown, hts⟩ (mL_addMicrophone l hfl dC dI cI cB cO cL s.heap.size sT eA qb qs qu qk qr qe qx qd bs s9 u kk (xs (nI i + 1).toNatClampNeg) (xs (nI i + 2).toNatClampNeg) ao o H.size hS.1 (gC_T hG [0, 1, 2, 7, 9] rfl rfl) (gC_N hG [0, 1, 2, 7, 9] rfl rfl) kC hc9) (vx_cwSW 4 hts gW_L_addMicrophone rfl rfl rfl (by decide +kernel) ⟨Nat.le_of_ble_eq_true rfl, Nat.le_of_ble_eq_true rfl⟩) ⟨lP_blind, lP_ok (A := xA s.heap.size) (va_P.app (va_P.app (va_P.app (va_P.app hb9 hs9) hu9) hk9) ho9) hK hF hC hS (fun q h => h)⟩ rfl rfl hl.1 rfl (lv_room (Nat.le_of_ble_eq_true rfl)) dL_law_262 ⟨hcl, hsl⟩) (va_P.app (va_P.app (va_P.app (va_P.app hr9 he9) hx9) hd9) hm9) (gC_T hG [0, 1, 2, 7, 9, 3, 4, 5, 6, 8] rfl rfl) (fun q h => mem_vA h) (fun q h => mem_vA h) (gC_N hG [0, 1, 2, 7, 9] rfl rfl) hA hS (fun r9 v9 H locs hp hP hO hS => ?_)
  rw [e1, lF_eq] at hp
  obtain ⟨rfl, rfl⟩ := Prod.mk.inj hp
  have hm9 := va_P_suf hO
  have t279 := va_P_pre hO
  have hd9 := va_P_suf t279
  have t299 := va_P_pre t279
  have hx9 := va_P_suf t299
  have t319 := va_P_pre t299
  have he9 := va_P_suf t319
  have t339 := va_P_pre t319
  have hr9 := t339
  have hP : va_P (dC, dI) vwCl (bw qb cI b1 ++ sw qs cI s1 ++ uw qu cI cB u1 ++ kw qk qb qr qe qs qu qx qd cI kk ++ lo cL ao (oN c1 r1 o)) H := hP
  have ho9 := va_P_suf hP
  have t379 := va_P_pre hP
  have hk9 := va_P_suf t379
  have t399 := va_P_pre t379
  have hu9 := va_P_suf t399
  have t419 := va_P_pre t399
  have hs9 := va_P_suf t419
  have t439 := va_P_pre t419
  have hb9 := t439
  refine lv_istore (lv' := [(5, .int (rcN 2 c1)), (4, .int (nI i)), (3, .ref ao), (2, .ref (qm 0)), (1, .ref (qk 0)), (0, .ref b)]) hx hb dL_law_265 hl (by decide) rfl (fun ls hl => ?_)
  refine lv_aload_n hx hb dL_law_267 rfl (lv_at hl 3 rfl) ?_
  refine lv_aload_n hx hb dL_law_268 rfl (lv_at hl 5 rfl) ?_
  refine lv_iload hx hb dL_law_269 (lv_at hl 1 rfl) ?_
  refine lv_iconst (v := 1) hx hb dL_law_271 (by decide) ?_
  refine lv_iadd hx hb dL_law_272 ?_
  refine va_sld hx hb hX hbl (Nat.not_le.mpr hbl) hS (w_in (k := 1) hi hL (by omega)) dL_law_273 ?_
  refine lv_aload_n hx hb dL_law_274 rfl (lv_at hl 5 rfl) ?_
  refine lv_iload hx hb dL_law_275 (lv_at hl 1 rfl) ?_
  refine lv_iconst (v := 2) hx hb dL_law_277 (by decide) ?_
  refine lv_iadd hx hb dL_law_278 ?_
  refine va_sld hx hb hX hbl (Nat.not_le.mpr hbl) hS (w_in (k := 2) hi hL (by omega)) dL_law_279 ?_
  refine i_call (Wd := fun m9 => mw qm cI m9) (w0 := mw qm cI mm) (wo := bw qb cI b1 ++ sw qs cI s1 ++ uw qu cI cB u1 ++ aw qr cI tr ++ ew qe cI te ++ xw qx cI x ++ dw qd cI cO eA rd ++ kw qk qb qr qe qs qu qx qd cI kk ++ lo cL ao (oN c1 r1 o)) (va_runV (mc := 0) (ms := 0) (As := [.int (xs (nI i + 1).toNatClampNeg), .int (xs (nI i + 2).toNatClampNeg)]) (rest := []) ⟨hx, hb, hml, hown, hts⟩ (mX12_addMicrophone l dC dI cI cB cO cL qm mm (xs (nI i + 1).toNatClampNeg) (xs (nI i + 2).toNatClampNeg) hIm kM) (cwV 2 hts gW_X12_addMicrophone rfl rfl rfl (by decide +kernel) ⟨Nat.le_of_ble_eq_true rfl, Nat.le_of_ble_eq_true rfl⟩) ⟨gP_blind, va_recv hK hm9 (ci := 9) (q0 := 0) rfl rfl, gP_ok hm9 hK⟩ rfl rfl hl.1 rfl (lv_room (Nat.le_of_ble_eq_true rfl)) dL_law_280 ⟨hcl0, hsl0⟩) (va_P.app (va_P.app (va_P.app (va_P.app (va_P.app (va_P.app (va_P.app (va_P.app hb9 hs9) hu9) hr9) he9) hx9) hd9) hk9) ho9) (gC_T hG [8, 0, 1, 2, 3, 4, 5, 6, 7, 9] rfl rfl) (fun q h => Or.inl (mem_wA h)) (fun q h => Or.inl (mem_wA h)) (gC_N hG [8] rfl rfl) hA hS (fun r2 m2 H locs hp2 hm9 hO hS => ?_)
  have hp2 : (r2, m2) = pX12_addMicrophone mm (xs (nI i + 1).toNatClampNeg) (xs (nI i + 2).toNatClampNeg) := hp2
  have ho9 := va_P_suf hO
  have t609 := va_P_pre hO
  have hk9 := va_P_suf t609
  have t629 := va_P_pre t609
  have hd9 := va_P_suf t629
  have t649 := va_P_pre t629
  have hx9 := va_P_suf t649
  have t669 := va_P_pre t649
  have he9 := va_P_suf t669
  have t689 := va_P_pre t669
  have hr9 := va_P_suf t689
  have t709 := va_P_pre t689
  have hu9 := va_P_suf t709
  have t729 := va_P_pre t709
  have hs9 := va_P_suf t729
  have t749 := va_P_pre t729
  have hb9 := t749
  have e2 : r2 = (pX12_addMicrophone mm (xs (nI i + 1).toNatClampNeg) (xs (nI i + 2).toNatClampNeg)).1 := by rw [← hp2]
  have e3 : m2 = (pX12_addMicrophone mm (xs (nI i + 1).toNatClampNeg) (xs (nI i + 2).toNatClampNeg)).2 := by rw [← hp2]
  rw [← e3] at hR h3
  rw [← e2] at h4
  refine lv_istore (lv' := [(6, .int r2), (5, .int (rcN 2 c1)), (4, .int (nI i)), (3, .ref ao), (2, .ref (qm 0)), (1, .ref (qk 0)), (0, .ref b)]) hx hb dL_law_283 hl (by decide) rfl (fun ls hl => ?_)
  refine lv_aload_n hx hb dL_law_285 rfl (lv_at hl 4 rfl) ?_
  refine gro_i (va_runV (mc := 0) (ms := 0) (As := []) (rest := []) ⟨hx, hb, hml, hown, hts⟩ (mX12_thrown l dC dI cI cB cO cL qm m2) (cwV 0 hts gW_X12_thrown rfl rfl rfl (by decide +kernel) ⟨Nat.le_of_ble_eq_true rfl, Nat.le_of_ble_eq_true rfl⟩) ⟨gP_blind, va_recv hK hm9 (ci := 9) (q0 := 0) rfl rfl, gP_ok hm9 hK⟩ rfl rfl hl.1 rfl (lv_room (Nat.le_of_ble_eq_true rfl)) dL_law_286 ⟨hcl0, hsl0⟩) ?_
  refine lv_iload hx hb dL_law_289 (lv_at hl 1 rfl) ?_
  refine lv_icmp_eq (tgt := 296) hx hb dL_law_291 (by decide) (fun _ => ?_) (fun h9 => absurd (show pX12_thrown m2 = rcN 2 c1 from h3.trans hmp.symm) h9)
  refine lv_iload hx hb dL_law_296 (lv_at hl 1 rfl) ?_
  refine lv_if_ne (tgt := 313) hx hb dL_law_298 (by decide) (fun _ => ?_) (fun h9 => ?_)
  · refine lv_goto (tgt := 1972) hx hb dL_law_313 (by decide) ?_
    exact hgo b1 s1 u1 tr te x rd kk m2 ((oN c1 r1 o)) _ _ _ ⟨hb9, hs9, hu9, hr9, he9, hx9, hd9, hk9, hm9, ho9⟩ hR hS (lv_sub hl [2, 3, 4, 5, 6] rfl)
  · refine lv_aload_n hx hb dL_law_301 rfl (lv_at hl 3 rfl) ?_
    refine lv_iconst (v := 0) hx hb dL_law_302 (by decide) ?_
    refine va_lald (D := (dC, dI)) (tys := tYS cI cB cO cL) hx hb hK ho9 0 3 rfl rfl (vp_in_n (i := 0) (by omega) (by omega)) dL_law_303 ?_
    refine lv_iload hx hb dL_law_304 (lv_at hl 0 rfl) ?_
    refine lv_i2l hx hb dL_law_306 rfl ?_
    refine W.lcmp hx hb dL_law_307 ?_
    refine lv_if_eq (tgt := 313) hx hb dL_law_308 (by decide) (fun _ => ?_) (fun h8 => absurd ((lg_cmp_eq _ _).mpr ?_) h8)
    · refine lv_goto (tgt := 1972) hx hb dL_law_313 (by decide) ?_
      exact hgo b1 s1 u1 tr te x rd kk m2 ((oN c1 r1 o)) _ _ _ ⟨hb9, hs9, hu9, hr9, he9, hx9, hd9, hk9, hm9, ho9⟩ hR hS (lv_sub hl [2, 3, 4, 5, 6] rfl)
    · have h7 := rcN_0 h9
      show oN c1 r1 o 0 = r2.toInt64
      rw [oN_0 h7, h4 h7]
set_option maxHeartbeats 4000000 in
set_option maxRecDepth 100000 in
theorem w_setClock (p : Program) (l : Launch) (e : Env) (s : State) (m : MethodId) (below : List Frame) (meth : Method) (c : Code) (b L : Nat) (xs : Nat → Int32) (dC : Nat → ClassId) (dI : Nat → Nat → Nat) (cI cB cO cL : ClassId) (sT eA qb qs qu qr qe qx qd qk qm : Nat → Nat) (ao : Nat) (hLS : LStart p l s m meth c b L xs (dC, dI) cI cB cO cL sT eA qb qs qu qr qe qx qd qk qm ao) (i : Nat) (hi : i + 6 ≤ L) (bs : BS) (s9 : SS) (u : US) (tr te x : TS) (rd : RS) (kk : Int32) (mm : MS) (o : Nat → Int64) (H : Heap) (locs : List Loc) (ls : Array Slot) (cells slots : Nat) (hcl : cells + 4 ≤ 601024) (hsl : slots + 24 ≤ 7293034) (hI : LI (dC, dI) cI cB cO cL eA qb qs qu qr qe qx qd qk qm ao bs s9 u tr te x rd kk mm o H) (hR : SR bs s9 u x kk mm) (hS : va_S (xA s.heap.size) s.heap H locs) (hl : lv_has ls 9 (lvL b ao qm qk i)) (hgo : LGo p l e s m below meth c b (dC, dI) cI cB cO cL eA qb qs qu qr qe qx qd qk qm ao i (cells + 4) (slots + 24)) : W p l e room_1 s m #[Value.ref b] below meth c H locs cells slots (lw_Z below #[Value.ref b] s) (F0 m 316 ls []) := by
  obtain ⟨hfl, ⟨hx, hb, hr, hml, hown, hts, hlocks⟩, hK, hF, hC, hX, hbl, hL, hG⟩ := hLS
  obtain ⟨hb9, hs9, hu9, hr9, he9, hx9, hd9, hk9, hm9, ho9⟩ := hI
  have hA : ∀ q : Nat, s.heap.size ≤ q → xA s.heap.size q := fun q h => h
  have hIm : gD (fun _ => True) (mAd qm) := gC_T hG [8] rfl rfl
  obtain ⟨c1, r1, b1, s1, u1, e1, kC, kM, hR, ⟨h3, h4⟩, -⟩ := clock_op hR (xs (nI i + 1).toNatClampNeg) (xs (nI i + 2).toNatClampNeg)
  have hc9 := cod_setClock (P := fun z => z = 0 ∨ z = 1 ∨ z = 2) bs s9 u kk (xs (nI i + 1).toNatClampNeg) (xs (nI i + 2).toNatClampNeg) (by decide) (by decide) (by decide)
  have hmp := cod_setClock (P := fun z => rcN 1 z = mpB z) bs s9 u kk (xs (nI i + 1).toNatClampNeg) (xs (nI i + 2).toNatClampNeg) (by decide) (by decide) (by decide)
  rw [e1] at hmp
  have hmp : rcN 1 c1 = mpB c1 := hmp
  have hcl0 : cells + 4 + 0 ≤ 601024 := hcl
  have hsl0 : slots + 24 + 0 ≤ 7293034 := hsl
  refine lv_aload_n hx hb dL_law_316 rfl (lv_at hl 3 rfl) ?_
  refine lv_aload_n hx hb dL_law_317 rfl (lv_at hl 4 rfl) ?_
  refine lv_iload hx hb dL_law_318 (lv_at hl 0 rfl) ?_
  refine lv_iconst (v := 1) hx hb dL_law_320 (by decide) ?_
  refine lv_iadd hx hb dL_law_321 ?_
  refine va_sld hx hb hX hbl (Nat.not_le.mpr hbl) hS (w_in (k := 1) hi hL (by omega)) dL_law_322 ?_
  refine lv_aload_n hx hb dL_law_323 rfl (lv_at hl 4 rfl) ?_
  refine lv_iload hx hb dL_law_324 (lv_at hl 0 rfl) ?_
  refine lv_iconst (v := 2) hx hb dL_law_326 (by decide) ?_
  refine lv_iadd hx hb dL_law_327 ?_
  refine va_sld hx hb hX hbl (Nat.not_le.mpr hbl) hS (w_in (k := 2) hi hL (by omega)) dL_law_328 ?_
  refine lv_aload_n hx hb dL_law_329 rfl (lv_at hl 1 rfl) ?_
  refine i_call (Wd := fun v9 : (BS × SS × US × Int32) × (Nat → Int64) => ((fun z9 : BS × SS × US × Int32 => bw qb cI z9.1 ++ sw qs cI z9.2.1 ++ uw qu cI cB z9.2.2.1 ++ kw qk qb qr qe qs qu qx qd cI z9.2.2.2)) v9.1 ++ lo cL ao v9.2) (w0 := bw qb cI bs ++ sw qs cI s9 ++ uw qu cI cB u ++ kw qk qb qr qe qs qu qx qd cI kk ++ lo cL ao o) (wo := aw qr cI tr ++ ew qe cI te ++ xw qx cI x ++ dw qd cI cO eA rd ++ mw qm cI mm) (vx_runSW (mc := 4) (ms := 24) (As := [.ref (qk 0), .int (xs (nI i + 1).toNatClampNeg), .int (xs (nI i + 2).toNatClampNeg), .ref ao]) (rest := []) ⟨hx, hb, hml, hown, hts⟩ (mL_setClock l hfl dC dI cI cB cO cL s.heap.size sT eA qb qs qu qk qr qe qx qd bs s9 u kk (xs (nI i + 1).toNatClampNeg) (xs (nI i + 2).toNatClampNeg) ao o H.size hS.1 (gC_T hG [0, 1, 2, 7, 9] rfl rfl) (gC_N hG [0, 1, 2, 7, 9] rfl rfl) kC hc9) (vx_cwSW 4 hts gW_L_setClock rfl rfl rfl (by decide +kernel) ⟨Nat.le_of_ble_eq_true rfl, Nat.le_of_ble_eq_true rfl⟩) ⟨lP_blind, lP_ok (A := xA s.heap.size) (va_P.app (va_P.app (va_P.app (va_P.app hb9 hs9) hu9) hk9) ho9) hK hF hC hS (fun q h => h)⟩ rfl rfl hl.1 rfl (lv_room (Nat.le_of_ble_eq_true rfl)) dL_law_330 ⟨hcl, hsl⟩) (va_P.app (va_P.app (va_P.app (va_P.app hr9 he9) hx9) hd9) hm9) (gC_T hG [0, 1, 2, 7, 9, 3, 4, 5, 6, 8] rfl rfl) (fun q h => mem_vA h) (fun q h => mem_vA h) (gC_N hG [0, 1, 2, 7, 9] rfl rfl) hA hS (fun r9 v9 H locs hp hP hO hS => ?_)
  rw [e1, lF_eq] at hp
  obtain ⟨rfl, rfl⟩ := Prod.mk.inj hp
  have hm9 := va_P_suf hO
  have t279 := va_P_pre hO
  have hd9 := va_P_suf t279
  have t299 := va_P_pre t279
  have hx9 := va_P_suf t299
  have t319 := va_P_pre t299
  have he9 := va_P_suf t319
  have t339 := va_P_pre t319
  have hr9 := t339
  have hP : va_P (dC, dI) vwCl (bw qb cI b1 ++ sw qs cI s1 ++ uw qu cI cB u1 ++ kw qk qb qr qe qs qu qx qd cI kk ++ lo cL ao (oN c1 r1 o)) H := hP
  have ho9 := va_P_suf hP
  have t379 := va_P_pre hP
  have hk9 := va_P_suf t379
  have t399 := va_P_pre t379
  have hu9 := va_P_suf t399
  have t419 := va_P_pre t399
  have hs9 := va_P_suf t419
  have t439 := va_P_pre t419
  have hb9 := t439
  refine lv_istore (lv' := [(5, .int (rcN 1 c1)), (4, .int (nI i)), (3, .ref ao), (2, .ref (qm 0)), (1, .ref (qk 0)), (0, .ref b)]) hx hb dL_law_333 hl (by decide) rfl (fun ls hl => ?_)
  refine lv_aload_n hx hb dL_law_335 rfl (lv_at hl 3 rfl) ?_
  refine lv_aload_n hx hb dL_law_336 rfl (lv_at hl 5 rfl) ?_
  refine lv_iload hx hb dL_law_337 (lv_at hl 1 rfl) ?_
  refine lv_iconst (v := 1) hx hb dL_law_339 (by decide) ?_
  refine lv_iadd hx hb dL_law_340 ?_
  refine va_sld hx hb hX hbl (Nat.not_le.mpr hbl) hS (w_in (k := 1) hi hL (by omega)) dL_law_341 ?_
  refine lv_aload_n hx hb dL_law_342 rfl (lv_at hl 5 rfl) ?_
  refine lv_iload hx hb dL_law_343 (lv_at hl 1 rfl) ?_
  refine lv_iconst (v := 2) hx hb dL_law_345 (by decide) ?_
  refine lv_iadd hx hb dL_law_346 ?_
  refine va_sld hx hb hX hbl (Nat.not_le.mpr hbl) hS (w_in (k := 2) hi hL (by omega)) dL_law_347 ?_
  refine i_call (Wd := fun m9 => mw qm cI m9) (w0 := mw qm cI mm) (wo := bw qb cI b1 ++ sw qs cI s1 ++ uw qu cI cB u1 ++ aw qr cI tr ++ ew qe cI te ++ xw qx cI x ++ dw qd cI cO eA rd ++ kw qk qb qr qe qs qu qx qd cI kk ++ lo cL ao (oN c1 r1 o)) (va_runV (mc := 0) (ms := 0) (As := [.int (xs (nI i + 1).toNatClampNeg), .int (xs (nI i + 2).toNatClampNeg)]) (rest := []) ⟨hx, hb, hml, hown, hts⟩ (mX12_setClock l dC dI cI cB cO cL qm mm (xs (nI i + 1).toNatClampNeg) (xs (nI i + 2).toNatClampNeg) hIm kM) (cwV 2 hts gW_X12_setClock rfl rfl rfl (by decide +kernel) ⟨Nat.le_of_ble_eq_true rfl, Nat.le_of_ble_eq_true rfl⟩) ⟨gP_blind, va_recv hK hm9 (ci := 9) (q0 := 0) rfl rfl, gP_ok hm9 hK⟩ rfl rfl hl.1 rfl (lv_room (Nat.le_of_ble_eq_true rfl)) dL_law_348 ⟨hcl0, hsl0⟩) (va_P.app (va_P.app (va_P.app (va_P.app (va_P.app (va_P.app (va_P.app (va_P.app hb9 hs9) hu9) hr9) he9) hx9) hd9) hk9) ho9) (gC_T hG [8, 0, 1, 2, 3, 4, 5, 6, 7, 9] rfl rfl) (fun q h => Or.inl (mem_wA h)) (fun q h => Or.inl (mem_wA h)) (gC_N hG [8] rfl rfl) hA hS (fun r2 m2 H locs hp2 hm9 hO hS => ?_)
  have hp2 : (r2, m2) = pX12_setClock mm (xs (nI i + 1).toNatClampNeg) (xs (nI i + 2).toNatClampNeg) := hp2
  have ho9 := va_P_suf hO
  have t609 := va_P_pre hO
  have hk9 := va_P_suf t609
  have t629 := va_P_pre t609
  have hd9 := va_P_suf t629
  have t649 := va_P_pre t629
  have hx9 := va_P_suf t649
  have t669 := va_P_pre t649
  have he9 := va_P_suf t669
  have t689 := va_P_pre t669
  have hr9 := va_P_suf t689
  have t709 := va_P_pre t689
  have hu9 := va_P_suf t709
  have t729 := va_P_pre t709
  have hs9 := va_P_suf t729
  have t749 := va_P_pre t729
  have hb9 := t749
  have e2 : r2 = (pX12_setClock mm (xs (nI i + 1).toNatClampNeg) (xs (nI i + 2).toNatClampNeg)).1 := by rw [← hp2]
  have e3 : m2 = (pX12_setClock mm (xs (nI i + 1).toNatClampNeg) (xs (nI i + 2).toNatClampNeg)).2 := by rw [← hp2]
  rw [← e3] at hR h3
  rw [← e2] at h4
  refine lv_istore (lv' := [(6, .int r2), (5, .int (rcN 1 c1)), (4, .int (nI i)), (3, .ref ao), (2, .ref (qm 0)), (1, .ref (qk 0)), (0, .ref b)]) hx hb dL_law_351 hl (by decide) rfl (fun ls hl => ?_)
  refine lv_aload_n hx hb dL_law_353 rfl (lv_at hl 4 rfl) ?_
  refine gro_i (va_runV (mc := 0) (ms := 0) (As := []) (rest := []) ⟨hx, hb, hml, hown, hts⟩ (mX12_thrown l dC dI cI cB cO cL qm m2) (cwV 0 hts gW_X12_thrown rfl rfl rfl (by decide +kernel) ⟨Nat.le_of_ble_eq_true rfl, Nat.le_of_ble_eq_true rfl⟩) ⟨gP_blind, va_recv hK hm9 (ci := 9) (q0 := 0) rfl rfl, gP_ok hm9 hK⟩ rfl rfl hl.1 rfl (lv_room (Nat.le_of_ble_eq_true rfl)) dL_law_354 ⟨hcl0, hsl0⟩) ?_
  refine lv_iload hx hb dL_law_357 (lv_at hl 1 rfl) ?_
  refine lv_icmp_eq (tgt := 364) hx hb dL_law_359 (by decide) (fun _ => ?_) (fun h9 => absurd (show pX12_thrown m2 = rcN 1 c1 from h3.trans hmp.symm) h9)
  refine lv_iload hx hb dL_law_364 (lv_at hl 1 rfl) ?_
  refine lv_if_ne (tgt := 381) hx hb dL_law_366 (by decide) (fun _ => ?_) (fun h9 => ?_)
  · refine lv_goto (tgt := 1972) hx hb dL_law_381 (by decide) ?_
    exact hgo b1 s1 u1 tr te x rd kk m2 ((oN c1 r1 o)) _ _ _ ⟨hb9, hs9, hu9, hr9, he9, hx9, hd9, hk9, hm9, ho9⟩ hR hS (lv_sub hl [2, 3, 4, 5, 6] rfl)
  · refine lv_aload_n hx hb dL_law_369 rfl (lv_at hl 3 rfl) ?_
    refine lv_iconst (v := 0) hx hb dL_law_370 (by decide) ?_
    refine va_lald (D := (dC, dI)) (tys := tYS cI cB cO cL) hx hb hK ho9 0 3 rfl rfl (vp_in_n (i := 0) (by omega) (by omega)) dL_law_371 ?_
    refine lv_iload hx hb dL_law_372 (lv_at hl 0 rfl) ?_
    refine lv_i2l hx hb dL_law_374 rfl ?_
    refine W.lcmp hx hb dL_law_375 ?_
    refine lv_if_eq (tgt := 381) hx hb dL_law_376 (by decide) (fun _ => ?_) (fun h8 => absurd ((lg_cmp_eq _ _).mpr ?_) h8)
    · refine lv_goto (tgt := 1972) hx hb dL_law_381 (by decide) ?_
      exact hgo b1 s1 u1 tr te x rd kk m2 ((oN c1 r1 o)) _ _ _ ⟨hb9, hs9, hu9, hr9, he9, hx9, hd9, hk9, hm9, ho9⟩ hR hS (lv_sub hl [2, 3, 4, 5, 6] rfl)
    · have h7 := rcN_0 h9
      show oN c1 r1 o 0 = r2.toInt64
      rw [oN_0 h7, h4 h7]
set_option maxHeartbeats 4000000 in
set_option maxRecDepth 100000 in
theorem w_addWall (p : Program) (l : Launch) (e : Env) (s : State) (m : MethodId) (below : List Frame) (meth : Method) (c : Code) (b L : Nat) (xs : Nat → Int32) (dC : Nat → ClassId) (dI : Nat → Nat → Nat) (cI cB cO cL : ClassId) (sT eA qb qs qu qr qe qx qd qk qm : Nat → Nat) (ao : Nat) (hLS : LStart p l s m meth c b L xs (dC, dI) cI cB cO cL sT eA qb qs qu qr qe qx qd qk qm ao) (i : Nat) (hi : i + 6 ≤ L) (bs : BS) (s9 : SS) (u : US) (tr te x : TS) (rd : RS) (kk : Int32) (mm : MS) (o : Nat → Int64) (H : Heap) (locs : List Loc) (ls : Array Slot) (cells slots : Nat) (hcl : cells + 4 ≤ 601024) (hsl : slots + 24 ≤ 7293034) (hI : LI (dC, dI) cI cB cO cL eA qb qs qu qr qe qx qd qk qm ao bs s9 u tr te x rd kk mm o H) (hR : SR bs s9 u x kk mm) (hS : va_S (xA s.heap.size) s.heap H locs) (hl : lv_has ls 9 (lvL b ao qm qk i)) (hgo : LGo p l e s m below meth c b (dC, dI) cI cB cO cL eA qb qs qu qr qe qx qd qk qm ao i (cells + 4) (slots + 24)) : W p l e room_1 s m #[Value.ref b] below meth c H locs cells slots (lw_Z below #[Value.ref b] s) (F0 m 384 ls []) := by
  obtain ⟨hfl, ⟨hx, hb, hr, hml, hown, hts, hlocks⟩, hK, hF, hC, hX, hbl, hL, hG⟩ := hLS
  obtain ⟨hb9, hs9, hu9, hr9, he9, hx9, hd9, hk9, hm9, ho9⟩ := hI
  have hA : ∀ q : Nat, s.heap.size ≤ q → xA s.heap.size q := fun q h => h
  have hIm : gD (fun _ => True) (mAd qm) := gC_T hG [8] rfl rfl
  obtain ⟨c1, r1, b1, s1, u1, e1, kC, kM, hR, ⟨h3, h4⟩, -⟩ := wall_op hR (xs (nI i + 1).toNatClampNeg) (xs (nI i + 2).toNatClampNeg) (xs (nI i + 3).toNatClampNeg)
  have hc9 := cod_addWall (P := fun z => z = 0 ∨ z = 2 ∨ z = 3) bs s9 u kk (xs (nI i + 1).toNatClampNeg) (xs (nI i + 2).toNatClampNeg) (xs (nI i + 3).toNatClampNeg) (by decide) (by decide) (by decide)
  have hmp := cod_addWall (P := fun z => rcN 2 z = mpA z) bs s9 u kk (xs (nI i + 1).toNatClampNeg) (xs (nI i + 2).toNatClampNeg) (xs (nI i + 3).toNatClampNeg) (by decide) (by decide) (by decide)
  rw [e1] at hmp
  have hmp : rcN 2 c1 = mpA c1 := hmp
  have hcl0 : cells + 4 + 0 ≤ 601024 := hcl
  have hsl0 : slots + 24 + 0 ≤ 7293034 := hsl
  refine lv_aload_n hx hb dL_law_384 rfl (lv_at hl 3 rfl) ?_
  refine lv_aload_n hx hb dL_law_385 rfl (lv_at hl 4 rfl) ?_
  refine lv_iload hx hb dL_law_386 (lv_at hl 0 rfl) ?_
  refine lv_iconst (v := 1) hx hb dL_law_388 (by decide) ?_
  refine lv_iadd hx hb dL_law_389 ?_
  refine va_sld hx hb hX hbl (Nat.not_le.mpr hbl) hS (w_in (k := 1) hi hL (by omega)) dL_law_390 ?_
  refine lv_aload_n hx hb dL_law_391 rfl (lv_at hl 4 rfl) ?_
  refine lv_iload hx hb dL_law_392 (lv_at hl 0 rfl) ?_
  refine lv_iconst (v := 2) hx hb dL_law_394 (by decide) ?_
  refine lv_iadd hx hb dL_law_395 ?_
  refine va_sld hx hb hX hbl (Nat.not_le.mpr hbl) hS (w_in (k := 2) hi hL (by omega)) dL_law_396 ?_
  refine lv_aload_n hx hb dL_law_397 rfl (lv_at hl 4 rfl) ?_
  refine lv_iload hx hb dL_law_398 (lv_at hl 0 rfl) ?_
  refine lv_iconst (v := 3) hx hb dL_law_400 (by decide) ?_
  refine lv_iadd hx hb dL_law_401 ?_
  refine va_sld hx hb hX hbl (Nat.not_le.mpr hbl) hS (w_in (k := 3) hi hL (by omega)) dL_law_402 ?_
  refine lv_aload_n hx hb dL_law_403 rfl (lv_at hl 1 rfl) ?_
  refine i_call (Wd := fun v9 : (BS × SS × US × Int32) × (Nat → Int64) => ((fun z9 : BS × SS × US × Int32 => bw qb cI z9.1 ++ sw qs cI z9.2.1 ++ uw qu cI cB z9.2.2.1 ++ kw qk qb qr qe qs qu qx qd cI z9.2.2.2)) v9.1 ++ lo cL ao v9.2) (w0 := bw qb cI bs ++ sw qs cI s9 ++ uw qu cI cB u ++ kw qk qb qr qe qs qu qx qd cI kk ++ lo cL ao o) (wo := aw qr cI tr ++ ew qe cI te ++ xw qx cI x ++ dw qd cI cO eA rd ++ mw qm cI mm) (vx_runSW (mc := 4) (ms := 24) (As := [.ref (qk 0), .int (xs (nI i + 1).toNatClampNeg), .int (xs (nI i + 2).toNatClampNeg), .int (xs (nI i + 3).toNatClampNeg), .ref ao]) (rest := []) ⟨hx, hb, hml, hown, hts⟩ (mL_addWall l hfl dC dI cI cB cO cL s.heap.size sT eA qb qs qu qk qr qe qx qd bs s9 u kk (xs (nI i + 1).toNatClampNeg) (xs (nI i + 2).toNatClampNeg) (xs (nI i + 3).toNatClampNeg) ao o H.size hS.1 (gC_T hG [0, 1, 2, 7, 9] rfl rfl) (gC_N hG [0, 1, 2, 7, 9] rfl rfl) kC hc9) (vx_cwSW 5 hts gW_L_addWall rfl rfl rfl (by decide +kernel) ⟨Nat.le_of_ble_eq_true rfl, Nat.le_of_ble_eq_true rfl⟩) ⟨lP_blind, lP_ok (A := xA s.heap.size) (va_P.app (va_P.app (va_P.app (va_P.app hb9 hs9) hu9) hk9) ho9) hK hF hC hS (fun q h => h)⟩ rfl rfl hl.1 rfl (lv_room (Nat.le_of_ble_eq_true rfl)) dL_law_404 ⟨hcl, hsl⟩) (va_P.app (va_P.app (va_P.app (va_P.app hr9 he9) hx9) hd9) hm9) (gC_T hG [0, 1, 2, 7, 9, 3, 4, 5, 6, 8] rfl rfl) (fun q h => mem_vA h) (fun q h => mem_vA h) (gC_N hG [0, 1, 2, 7, 9] rfl rfl) hA hS (fun r9 v9 H locs hp hP hO hS => ?_)
  rw [e1, lF_eq] at hp
  obtain ⟨rfl, rfl⟩ := Prod.mk.inj hp
  have hm9 := va_P_suf hO
  have t329 := va_P_pre hO
  have hd9 := va_P_suf t329
  have t349 := va_P_pre t329
  have hx9 := va_P_suf t349
  have t369 := va_P_pre t349
  have he9 := va_P_suf t369
  have t389 := va_P_pre t369
  have hr9 := t389
  have hP : va_P (dC, dI) vwCl (bw qb cI b1 ++ sw qs cI s1 ++ uw qu cI cB u1 ++ kw qk qb qr qe qs qu qx qd cI kk ++ lo cL ao (oN c1 r1 o)) H := hP
  have ho9 := va_P_suf hP
  have t429 := va_P_pre hP
  have hk9 := va_P_suf t429
  have t449 := va_P_pre t429
  have hu9 := va_P_suf t449
  have t469 := va_P_pre t449
  have hs9 := va_P_suf t469
  have t489 := va_P_pre t469
  have hb9 := t489
  refine lv_istore (lv' := [(5, .int (rcN 2 c1)), (4, .int (nI i)), (3, .ref ao), (2, .ref (qm 0)), (1, .ref (qk 0)), (0, .ref b)]) hx hb dL_law_407 hl (by decide) rfl (fun ls hl => ?_)
  refine lv_aload_n hx hb dL_law_409 rfl (lv_at hl 3 rfl) ?_
  refine lv_aload_n hx hb dL_law_410 rfl (lv_at hl 5 rfl) ?_
  refine lv_iload hx hb dL_law_411 (lv_at hl 1 rfl) ?_
  refine lv_iconst (v := 1) hx hb dL_law_413 (by decide) ?_
  refine lv_iadd hx hb dL_law_414 ?_
  refine va_sld hx hb hX hbl (Nat.not_le.mpr hbl) hS (w_in (k := 1) hi hL (by omega)) dL_law_415 ?_
  refine lv_aload_n hx hb dL_law_416 rfl (lv_at hl 5 rfl) ?_
  refine lv_iload hx hb dL_law_417 (lv_at hl 1 rfl) ?_
  refine lv_iconst (v := 2) hx hb dL_law_419 (by decide) ?_
  refine lv_iadd hx hb dL_law_420 ?_
  refine va_sld hx hb hX hbl (Nat.not_le.mpr hbl) hS (w_in (k := 2) hi hL (by omega)) dL_law_421 ?_
  refine lv_aload_n hx hb dL_law_422 rfl (lv_at hl 5 rfl) ?_
  refine lv_iload hx hb dL_law_423 (lv_at hl 1 rfl) ?_
  refine lv_iconst (v := 3) hx hb dL_law_425 (by decide) ?_
  refine lv_iadd hx hb dL_law_426 ?_
  refine va_sld hx hb hX hbl (Nat.not_le.mpr hbl) hS (w_in (k := 3) hi hL (by omega)) dL_law_427 ?_
  refine i_call (Wd := fun m9 => mw qm cI m9) (w0 := mw qm cI mm) (wo := bw qb cI b1 ++ sw qs cI s1 ++ uw qu cI cB u1 ++ aw qr cI tr ++ ew qe cI te ++ xw qx cI x ++ dw qd cI cO eA rd ++ kw qk qb qr qe qs qu qx qd cI kk ++ lo cL ao (oN c1 r1 o)) (va_runV (mc := 0) (ms := 0) (As := [.int (xs (nI i + 1).toNatClampNeg), .int (xs (nI i + 2).toNatClampNeg), .int (xs (nI i + 3).toNatClampNeg)]) (rest := []) ⟨hx, hb, hml, hown, hts⟩ (mX12_addWall l dC dI cI cB cO cL qm mm (xs (nI i + 1).toNatClampNeg) (xs (nI i + 2).toNatClampNeg) (xs (nI i + 3).toNatClampNeg) hIm kM) (cwV 3 hts gW_X12_addWall rfl rfl rfl (by decide +kernel) ⟨Nat.le_of_ble_eq_true rfl, Nat.le_of_ble_eq_true rfl⟩) ⟨gP_blind, va_recv hK hm9 (ci := 9) (q0 := 0) rfl rfl, gP_ok hm9 hK⟩ rfl rfl hl.1 rfl (lv_room (Nat.le_of_ble_eq_true rfl)) dL_law_428 ⟨hcl0, hsl0⟩) (va_P.app (va_P.app (va_P.app (va_P.app (va_P.app (va_P.app (va_P.app (va_P.app hb9 hs9) hu9) hr9) he9) hx9) hd9) hk9) ho9) (gC_T hG [8, 0, 1, 2, 3, 4, 5, 6, 7, 9] rfl rfl) (fun q h => Or.inl (mem_wA h)) (fun q h => Or.inl (mem_wA h)) (gC_N hG [8] rfl rfl) hA hS (fun r2 m2 H locs hp2 hm9 hO hS => ?_)
  have hp2 : (r2, m2) = pX12_addWall mm (xs (nI i + 1).toNatClampNeg) (xs (nI i + 2).toNatClampNeg) (xs (nI i + 3).toNatClampNeg) := hp2
  have ho9 := va_P_suf hO
  have t709 := va_P_pre hO
  have hk9 := va_P_suf t709
  have t729 := va_P_pre t709
  have hd9 := va_P_suf t729
  have t749 := va_P_pre t729
  have hx9 := va_P_suf t749
  have t769 := va_P_pre t749
  have he9 := va_P_suf t769
  have t789 := va_P_pre t769
  have hr9 := va_P_suf t789
  have t809 := va_P_pre t789
  have hu9 := va_P_suf t809
  have t829 := va_P_pre t809
  have hs9 := va_P_suf t829
  have t849 := va_P_pre t829
  have hb9 := t849
  have e2 : r2 = (pX12_addWall mm (xs (nI i + 1).toNatClampNeg) (xs (nI i + 2).toNatClampNeg) (xs (nI i + 3).toNatClampNeg)).1 := by rw [← hp2]
  have e3 : m2 = (pX12_addWall mm (xs (nI i + 1).toNatClampNeg) (xs (nI i + 2).toNatClampNeg) (xs (nI i + 3).toNatClampNeg)).2 := by rw [← hp2]
  rw [← e3] at hR h3
  rw [← e2] at h4
  refine lv_istore (lv' := [(6, .int r2), (5, .int (rcN 2 c1)), (4, .int (nI i)), (3, .ref ao), (2, .ref (qm 0)), (1, .ref (qk 0)), (0, .ref b)]) hx hb dL_law_431 hl (by decide) rfl (fun ls hl => ?_)
  refine lv_aload_n hx hb dL_law_433 rfl (lv_at hl 4 rfl) ?_
  refine gro_i (va_runV (mc := 0) (ms := 0) (As := []) (rest := []) ⟨hx, hb, hml, hown, hts⟩ (mX12_thrown l dC dI cI cB cO cL qm m2) (cwV 0 hts gW_X12_thrown rfl rfl rfl (by decide +kernel) ⟨Nat.le_of_ble_eq_true rfl, Nat.le_of_ble_eq_true rfl⟩) ⟨gP_blind, va_recv hK hm9 (ci := 9) (q0 := 0) rfl rfl, gP_ok hm9 hK⟩ rfl rfl hl.1 rfl (lv_room (Nat.le_of_ble_eq_true rfl)) dL_law_434 ⟨hcl0, hsl0⟩) ?_
  refine lv_iload hx hb dL_law_437 (lv_at hl 1 rfl) ?_
  refine lv_icmp_eq (tgt := 444) hx hb dL_law_439 (by decide) (fun _ => ?_) (fun h9 => absurd (show pX12_thrown m2 = rcN 2 c1 from h3.trans hmp.symm) h9)
  refine lv_iload hx hb dL_law_444 (lv_at hl 1 rfl) ?_
  refine lv_if_ne (tgt := 461) hx hb dL_law_446 (by decide) (fun _ => ?_) (fun h9 => ?_)
  · refine lv_goto (tgt := 1972) hx hb dL_law_461 (by decide) ?_
    exact hgo b1 s1 u1 tr te x rd kk m2 ((oN c1 r1 o)) _ _ _ ⟨hb9, hs9, hu9, hr9, he9, hx9, hd9, hk9, hm9, ho9⟩ hR hS (lv_sub hl [2, 3, 4, 5, 6] rfl)
  · refine lv_aload_n hx hb dL_law_449 rfl (lv_at hl 3 rfl) ?_
    refine lv_iconst (v := 0) hx hb dL_law_450 (by decide) ?_
    refine va_lald (D := (dC, dI)) (tys := tYS cI cB cO cL) hx hb hK ho9 0 3 rfl rfl (vp_in_n (i := 0) (by omega) (by omega)) dL_law_451 ?_
    refine lv_iload hx hb dL_law_452 (lv_at hl 0 rfl) ?_
    refine lv_i2l hx hb dL_law_454 rfl ?_
    refine W.lcmp hx hb dL_law_455 ?_
    refine lv_if_eq (tgt := 461) hx hb dL_law_456 (by decide) (fun _ => ?_) (fun h8 => absurd ((lg_cmp_eq _ _).mpr ?_) h8)
    · refine lv_goto (tgt := 1972) hx hb dL_law_461 (by decide) ?_
      exact hgo b1 s1 u1 tr te x rd kk m2 ((oN c1 r1 o)) _ _ _ ⟨hb9, hs9, hu9, hr9, he9, hx9, hd9, hk9, hm9, ho9⟩ hR hS (lv_sub hl [2, 3, 4, 5, 6] rfl)
    · have h7 := rcN_0 h9
      show oN c1 r1 o 0 = r2.toInt64
      rw [oN_0 h7, h4 h7]
set_option maxHeartbeats 4000000 in
set_option maxRecDepth 100000 in
theorem w_addScreen (p : Program) (l : Launch) (e : Env) (s : State) (m : MethodId) (below : List Frame) (meth : Method) (c : Code) (b L : Nat) (xs : Nat → Int32) (dC : Nat → ClassId) (dI : Nat → Nat → Nat) (cI cB cO cL : ClassId) (sT eA qb qs qu qr qe qx qd qk qm : Nat → Nat) (ao : Nat) (hLS : LStart p l s m meth c b L xs (dC, dI) cI cB cO cL sT eA qb qs qu qr qe qx qd qk qm ao) (i : Nat) (hi : i + 6 ≤ L) (bs : BS) (s9 : SS) (u : US) (tr te x : TS) (rd : RS) (kk : Int32) (mm : MS) (o : Nat → Int64) (H : Heap) (locs : List Loc) (ls : Array Slot) (cells slots : Nat) (hcl : cells + 4 ≤ 601024) (hsl : slots + 24 ≤ 7293034) (hI : LI (dC, dI) cI cB cO cL eA qb qs qu qr qe qx qd qk qm ao bs s9 u tr te x rd kk mm o H) (hR : SR bs s9 u x kk mm) (hS : va_S (xA s.heap.size) s.heap H locs) (hl : lv_has ls 9 (lvL b ao qm qk i)) (hgo : LGo p l e s m below meth c b (dC, dI) cI cB cO cL eA qb qs qu qr qe qx qd qk qm ao i (cells + 4) (slots + 24)) : W p l e room_1 s m #[Value.ref b] below meth c H locs cells slots (lw_Z below #[Value.ref b] s) (F0 m 464 ls []) := by
  obtain ⟨hfl, ⟨hx, hb, hr, hml, hown, hts, hlocks⟩, hK, hF, hC, hX, hbl, hL, hG⟩ := hLS
  obtain ⟨hb9, hs9, hu9, hr9, he9, hx9, hd9, hk9, hm9, ho9⟩ := hI
  have hA : ∀ q : Nat, s.heap.size ≤ q → xA s.heap.size q := fun q h => h
  have hIm : gD (fun _ => True) (mAd qm) := gC_T hG [8] rfl rfl
  obtain ⟨c1, r1, b1, s1, u1, e1, kC, kM, hR, ⟨h3, h4⟩, -⟩ := screen_op hR (xs (nI i + 1).toNatClampNeg) (xs (nI i + 2).toNatClampNeg) (xs (nI i + 3).toNatClampNeg) (xs (nI i + 4).toNatClampNeg)
  have hc9 := cod_addScreen (P := fun z => z = 0 ∨ z = 2 ∨ z = 3) bs s9 u kk (xs (nI i + 1).toNatClampNeg) (xs (nI i + 2).toNatClampNeg) (xs (nI i + 3).toNatClampNeg) (xs (nI i + 4).toNatClampNeg) (by decide) (by decide) (by decide)
  have hmp := cod_addScreen (P := fun z => rcN 2 z = mpA z) bs s9 u kk (xs (nI i + 1).toNatClampNeg) (xs (nI i + 2).toNatClampNeg) (xs (nI i + 3).toNatClampNeg) (xs (nI i + 4).toNatClampNeg) (by decide) (by decide) (by decide)
  rw [e1] at hmp
  have hmp : rcN 2 c1 = mpA c1 := hmp
  have hcl0 : cells + 4 + 0 ≤ 601024 := hcl
  have hsl0 : slots + 24 + 0 ≤ 7293034 := hsl
  refine lv_aload_n hx hb dL_law_464 rfl (lv_at hl 3 rfl) ?_
  refine lv_aload_n hx hb dL_law_465 rfl (lv_at hl 4 rfl) ?_
  refine lv_iload hx hb dL_law_466 (lv_at hl 0 rfl) ?_
  refine lv_iconst (v := 1) hx hb dL_law_468 (by decide) ?_
  refine lv_iadd hx hb dL_law_469 ?_
  refine va_sld hx hb hX hbl (Nat.not_le.mpr hbl) hS (w_in (k := 1) hi hL (by omega)) dL_law_470 ?_
  refine lv_aload_n hx hb dL_law_471 rfl (lv_at hl 4 rfl) ?_
  refine lv_iload hx hb dL_law_472 (lv_at hl 0 rfl) ?_
  refine lv_iconst (v := 2) hx hb dL_law_474 (by decide) ?_
  refine lv_iadd hx hb dL_law_475 ?_
  refine va_sld hx hb hX hbl (Nat.not_le.mpr hbl) hS (w_in (k := 2) hi hL (by omega)) dL_law_476 ?_
  refine lv_aload_n hx hb dL_law_477 rfl (lv_at hl 4 rfl) ?_
  refine lv_iload hx hb dL_law_478 (lv_at hl 0 rfl) ?_
  refine lv_iconst (v := 3) hx hb dL_law_480 (by decide) ?_
  refine lv_iadd hx hb dL_law_481 ?_
  refine va_sld hx hb hX hbl (Nat.not_le.mpr hbl) hS (w_in (k := 3) hi hL (by omega)) dL_law_482 ?_
  refine lv_aload_n hx hb dL_law_483 rfl (lv_at hl 4 rfl) ?_
  refine lv_iload hx hb dL_law_484 (lv_at hl 0 rfl) ?_
  refine lv_iconst (v := 4) hx hb dL_law_486 (by decide) ?_
  refine lv_iadd hx hb dL_law_487 ?_
  refine va_sld hx hb hX hbl (Nat.not_le.mpr hbl) hS (w_in (k := 4) hi hL (by omega)) dL_law_488 ?_
  refine lv_aload_n hx hb dL_law_489 rfl (lv_at hl 1 rfl) ?_
  refine i_call (Wd := fun v9 : (BS × SS × US × Int32) × (Nat → Int64) => ((fun z9 : BS × SS × US × Int32 => bw qb cI z9.1 ++ sw qs cI z9.2.1 ++ uw qu cI cB z9.2.2.1 ++ kw qk qb qr qe qs qu qx qd cI z9.2.2.2)) v9.1 ++ lo cL ao v9.2) (w0 := bw qb cI bs ++ sw qs cI s9 ++ uw qu cI cB u ++ kw qk qb qr qe qs qu qx qd cI kk ++ lo cL ao o) (wo := aw qr cI tr ++ ew qe cI te ++ xw qx cI x ++ dw qd cI cO eA rd ++ mw qm cI mm) (vx_runSW (mc := 4) (ms := 24) (As := [.ref (qk 0), .int (xs (nI i + 1).toNatClampNeg), .int (xs (nI i + 2).toNatClampNeg), .int (xs (nI i + 3).toNatClampNeg), .int (xs (nI i + 4).toNatClampNeg), .ref ao]) (rest := []) ⟨hx, hb, hml, hown, hts⟩ (mL_addScreen l hfl dC dI cI cB cO cL s.heap.size sT eA qb qs qu qk qr qe qx qd bs s9 u kk (xs (nI i + 1).toNatClampNeg) (xs (nI i + 2).toNatClampNeg) (xs (nI i + 3).toNatClampNeg) (xs (nI i + 4).toNatClampNeg) ao o H.size hS.1 (gC_T hG [0, 1, 2, 7, 9] rfl rfl) (gC_N hG [0, 1, 2, 7, 9] rfl rfl) kC hc9) (vx_cwSW 6 hts gW_L_addScreen rfl rfl rfl (by decide +kernel) ⟨Nat.le_of_ble_eq_true rfl, Nat.le_of_ble_eq_true rfl⟩) ⟨lP_blind, lP_ok (A := xA s.heap.size) (va_P.app (va_P.app (va_P.app (va_P.app hb9 hs9) hu9) hk9) ho9) hK hF hC hS (fun q h => h)⟩ rfl rfl hl.1 rfl (lv_room (Nat.le_of_ble_eq_true rfl)) dL_law_490 ⟨hcl, hsl⟩) (va_P.app (va_P.app (va_P.app (va_P.app hr9 he9) hx9) hd9) hm9) (gC_T hG [0, 1, 2, 7, 9, 3, 4, 5, 6, 8] rfl rfl) (fun q h => mem_vA h) (fun q h => mem_vA h) (gC_N hG [0, 1, 2, 7, 9] rfl rfl) hA hS (fun r9 v9 H locs hp hP hO hS => ?_)
  rw [e1, lF_eq] at hp
  obtain ⟨rfl, rfl⟩ := Prod.mk.inj hp
  have hm9 := va_P_suf hO
  have t379 := va_P_pre hO
  have hd9 := va_P_suf t379
  have t399 := va_P_pre t379
  have hx9 := va_P_suf t399
  have t419 := va_P_pre t399
  have he9 := va_P_suf t419
  have t439 := va_P_pre t419
  have hr9 := t439
  have hP : va_P (dC, dI) vwCl (bw qb cI b1 ++ sw qs cI s1 ++ uw qu cI cB u1 ++ kw qk qb qr qe qs qu qx qd cI kk ++ lo cL ao (oN c1 r1 o)) H := hP
  have ho9 := va_P_suf hP
  have t479 := va_P_pre hP
  have hk9 := va_P_suf t479
  have t499 := va_P_pre t479
  have hu9 := va_P_suf t499
  have t519 := va_P_pre t499
  have hs9 := va_P_suf t519
  have t539 := va_P_pre t519
  have hb9 := t539
  refine lv_istore (lv' := [(5, .int (rcN 2 c1)), (4, .int (nI i)), (3, .ref ao), (2, .ref (qm 0)), (1, .ref (qk 0)), (0, .ref b)]) hx hb dL_law_493 hl (by decide) rfl (fun ls hl => ?_)
  refine lv_aload_n hx hb dL_law_495 rfl (lv_at hl 3 rfl) ?_
  refine lv_aload_n hx hb dL_law_496 rfl (lv_at hl 5 rfl) ?_
  refine lv_iload hx hb dL_law_497 (lv_at hl 1 rfl) ?_
  refine lv_iconst (v := 1) hx hb dL_law_499 (by decide) ?_
  refine lv_iadd hx hb dL_law_500 ?_
  refine va_sld hx hb hX hbl (Nat.not_le.mpr hbl) hS (w_in (k := 1) hi hL (by omega)) dL_law_501 ?_
  refine lv_aload_n hx hb dL_law_502 rfl (lv_at hl 5 rfl) ?_
  refine lv_iload hx hb dL_law_503 (lv_at hl 1 rfl) ?_
  refine lv_iconst (v := 2) hx hb dL_law_505 (by decide) ?_
  refine lv_iadd hx hb dL_law_506 ?_
  refine va_sld hx hb hX hbl (Nat.not_le.mpr hbl) hS (w_in (k := 2) hi hL (by omega)) dL_law_507 ?_
  refine lv_aload_n hx hb dL_law_508 rfl (lv_at hl 5 rfl) ?_
  refine lv_iload hx hb dL_law_509 (lv_at hl 1 rfl) ?_
  refine lv_iconst (v := 3) hx hb dL_law_511 (by decide) ?_
  refine lv_iadd hx hb dL_law_512 ?_
  refine va_sld hx hb hX hbl (Nat.not_le.mpr hbl) hS (w_in (k := 3) hi hL (by omega)) dL_law_513 ?_
  refine lv_aload_n hx hb dL_law_514 rfl (lv_at hl 5 rfl) ?_
  refine lv_iload hx hb dL_law_515 (lv_at hl 1 rfl) ?_
  refine lv_iconst (v := 4) hx hb dL_law_517 (by decide) ?_
  refine lv_iadd hx hb dL_law_518 ?_
  refine va_sld hx hb hX hbl (Nat.not_le.mpr hbl) hS (w_in (k := 4) hi hL (by omega)) dL_law_519 ?_
  refine i_call (Wd := fun m9 => mw qm cI m9) (w0 := mw qm cI mm) (wo := bw qb cI b1 ++ sw qs cI s1 ++ uw qu cI cB u1 ++ aw qr cI tr ++ ew qe cI te ++ xw qx cI x ++ dw qd cI cO eA rd ++ kw qk qb qr qe qs qu qx qd cI kk ++ lo cL ao (oN c1 r1 o)) (va_runV (mc := 0) (ms := 0) (As := [.int (xs (nI i + 1).toNatClampNeg), .int (xs (nI i + 2).toNatClampNeg), .int (xs (nI i + 3).toNatClampNeg), .int (xs (nI i + 4).toNatClampNeg)]) (rest := []) ⟨hx, hb, hml, hown, hts⟩ (mX12_addScreen l dC dI cI cB cO cL qm mm (xs (nI i + 1).toNatClampNeg) (xs (nI i + 2).toNatClampNeg) (xs (nI i + 3).toNatClampNeg) (xs (nI i + 4).toNatClampNeg) hIm kM) (cwV 4 hts gW_X12_addScreen rfl rfl rfl (by decide +kernel) ⟨Nat.le_of_ble_eq_true rfl, Nat.le_of_ble_eq_true rfl⟩) ⟨gP_blind, va_recv hK hm9 (ci := 9) (q0 := 0) rfl rfl, gP_ok hm9 hK⟩ rfl rfl hl.1 rfl (lv_room (Nat.le_of_ble_eq_true rfl)) dL_law_520 ⟨hcl0, hsl0⟩) (va_P.app (va_P.app (va_P.app (va_P.app (va_P.app (va_P.app (va_P.app (va_P.app hb9 hs9) hu9) hr9) he9) hx9) hd9) hk9) ho9) (gC_T hG [8, 0, 1, 2, 3, 4, 5, 6, 7, 9] rfl rfl) (fun q h => Or.inl (mem_wA h)) (fun q h => Or.inl (mem_wA h)) (gC_N hG [8] rfl rfl) hA hS (fun r2 m2 H locs hp2 hm9 hO hS => ?_)
  have hp2 : (r2, m2) = pX12_addScreen mm (xs (nI i + 1).toNatClampNeg) (xs (nI i + 2).toNatClampNeg) (xs (nI i + 3).toNatClampNeg) (xs (nI i + 4).toNatClampNeg) := hp2
  have ho9 := va_P_suf hO
  have t809 := va_P_pre hO
  have hk9 := va_P_suf t809
  have t829 := va_P_pre t809
  have hd9 := va_P_suf t829
  have t849 := va_P_pre t829
  have hx9 := va_P_suf t849
  have t869 := va_P_pre t849
  have he9 := va_P_suf t869
  have t889 := va_P_pre t869
  have hr9 := va_P_suf t889
  have t909 := va_P_pre t889
  have hu9 := va_P_suf t909
  have t929 := va_P_pre t909
  have hs9 := va_P_suf t929
  have t949 := va_P_pre t929
  have hb9 := t949
  have e2 : r2 = (pX12_addScreen mm (xs (nI i + 1).toNatClampNeg) (xs (nI i + 2).toNatClampNeg) (xs (nI i + 3).toNatClampNeg) (xs (nI i + 4).toNatClampNeg)).1 := by rw [← hp2]
  have e3 : m2 = (pX12_addScreen mm (xs (nI i + 1).toNatClampNeg) (xs (nI i + 2).toNatClampNeg) (xs (nI i + 3).toNatClampNeg) (xs (nI i + 4).toNatClampNeg)).2 := by rw [← hp2]
  rw [← e3] at hR h3
  rw [← e2] at h4
  refine lv_istore (lv' := [(6, .int r2), (5, .int (rcN 2 c1)), (4, .int (nI i)), (3, .ref ao), (2, .ref (qm 0)), (1, .ref (qk 0)), (0, .ref b)]) hx hb dL_law_523 hl (by decide) rfl (fun ls hl => ?_)
  refine lv_aload_n hx hb dL_law_525 rfl (lv_at hl 4 rfl) ?_
  refine gro_i (va_runV (mc := 0) (ms := 0) (As := []) (rest := []) ⟨hx, hb, hml, hown, hts⟩ (mX12_thrown l dC dI cI cB cO cL qm m2) (cwV 0 hts gW_X12_thrown rfl rfl rfl (by decide +kernel) ⟨Nat.le_of_ble_eq_true rfl, Nat.le_of_ble_eq_true rfl⟩) ⟨gP_blind, va_recv hK hm9 (ci := 9) (q0 := 0) rfl rfl, gP_ok hm9 hK⟩ rfl rfl hl.1 rfl (lv_room (Nat.le_of_ble_eq_true rfl)) dL_law_526 ⟨hcl0, hsl0⟩) ?_
  refine lv_iload hx hb dL_law_529 (lv_at hl 1 rfl) ?_
  refine lv_icmp_eq (tgt := 536) hx hb dL_law_531 (by decide) (fun _ => ?_) (fun h9 => absurd (show pX12_thrown m2 = rcN 2 c1 from h3.trans hmp.symm) h9)
  refine lv_iload hx hb dL_law_536 (lv_at hl 1 rfl) ?_
  refine lv_if_ne (tgt := 553) hx hb dL_law_538 (by decide) (fun _ => ?_) (fun h9 => ?_)
  · refine lv_goto (tgt := 1972) hx hb dL_law_553 (by decide) ?_
    exact hgo b1 s1 u1 tr te x rd kk m2 ((oN c1 r1 o)) _ _ _ ⟨hb9, hs9, hu9, hr9, he9, hx9, hd9, hk9, hm9, ho9⟩ hR hS (lv_sub hl [2, 3, 4, 5, 6] rfl)
  · refine lv_aload_n hx hb dL_law_541 rfl (lv_at hl 3 rfl) ?_
    refine lv_iconst (v := 0) hx hb dL_law_542 (by decide) ?_
    refine va_lald (D := (dC, dI)) (tys := tYS cI cB cO cL) hx hb hK ho9 0 3 rfl rfl (vp_in_n (i := 0) (by omega) (by omega)) dL_law_543 ?_
    refine lv_iload hx hb dL_law_544 (lv_at hl 0 rfl) ?_
    refine lv_i2l hx hb dL_law_546 rfl ?_
    refine W.lcmp hx hb dL_law_547 ?_
    refine lv_if_eq (tgt := 553) hx hb dL_law_548 (by decide) (fun _ => ?_) (fun h8 => absurd ((lg_cmp_eq _ _).mpr ?_) h8)
    · refine lv_goto (tgt := 1972) hx hb dL_law_553 (by decide) ?_
      exact hgo b1 s1 u1 tr te x rd kk m2 ((oN c1 r1 o)) _ _ _ ⟨hb9, hs9, hu9, hr9, he9, hx9, hd9, hk9, hm9, ho9⟩ hR hS (lv_sub hl [2, 3, 4, 5, 6] rfl)
    · have h7 := rcN_0 h9
      show oN c1 r1 o 0 = r2.toInt64
      rw [oN_0 h7, h4 h7]
set_option maxHeartbeats 4000000 in
set_option maxRecDepth 100000 in
theorem w_remove (p : Program) (l : Launch) (e : Env) (s : State) (m : MethodId) (below : List Frame) (meth : Method) (c : Code) (b L : Nat) (xs : Nat → Int32) (dC : Nat → ClassId) (dI : Nat → Nat → Nat) (cI cB cO cL : ClassId) (sT eA qb qs qu qr qe qx qd qk qm : Nat → Nat) (ao : Nat) (hLS : LStart p l s m meth c b L xs (dC, dI) cI cB cO cL sT eA qb qs qu qr qe qx qd qk qm ao) (i : Nat) (hi : i + 6 ≤ L) (bs : BS) (s9 : SS) (u : US) (tr te x : TS) (rd : RS) (kk : Int32) (mm : MS) (o : Nat → Int64) (H : Heap) (locs : List Loc) (ls : Array Slot) (cells slots : Nat) (hcl : cells + 4 ≤ 601024) (hsl : slots + 24 ≤ 7293034) (hI : LI (dC, dI) cI cB cO cL eA qb qs qu qr qe qx qd qk qm ao bs s9 u tr te x rd kk mm o H) (hR : SR bs s9 u x kk mm) (hS : va_S (xA s.heap.size) s.heap H locs) (hl : lv_has ls 9 (lvL b ao qm qk i)) (hgo : LGo p l e s m below meth c b (dC, dI) cI cB cO cL eA qb qs qu qr qe qx qd qk qm ao i (cells + 4) (slots + 24)) : W p l e room_1 s m #[Value.ref b] below meth c H locs cells slots (lw_Z below #[Value.ref b] s) (F0 m 556 ls []) := by
  obtain ⟨hfl, ⟨hx, hb, hr, hml, hown, hts, hlocks⟩, hK, hF, hC, hX, hbl, hL, hG⟩ := hLS
  obtain ⟨hb9, hs9, hu9, hr9, he9, hx9, hd9, hk9, hm9, ho9⟩ := hI
  have hA : ∀ q : Nat, s.heap.size ≤ q → xA s.heap.size q := fun q h => h
  have hIm : gD (fun _ => True) (mAd qm) := gC_T hG [8] rfl rfl
  obtain ⟨c1, r1, b1, s1, u1, e1, kC, kM, hR, h3, h4, -⟩ := remove_op hR (xs (nI i + 1).toNatClampNeg) (xs (nI i + 2).toNatClampNeg)
  have hc9 := cod_remove (P := fun z => z = 0 ∨ z = 2 ∨ z = 1) bs s9 u kk (xs (nI i + 1).toNatClampNeg) (xs (nI i + 2).toNatClampNeg) (by decide) (by decide) (by decide)
  have hmp := cod_remove (P := fun z => rcN 2 z = (fun z : Nat => if z = 0 then (0 : Int32) else if z = 2 then 1 else 2) z) bs s9 u kk (xs (nI i + 1).toNatClampNeg) (xs (nI i + 2).toNatClampNeg) (by decide) (by decide) (by decide)
  rw [e1] at hmp
  have hmp : rcN 2 c1 = (fun z : Nat => if z = 0 then (0 : Int32) else if z = 2 then 1 else 2) c1 := hmp
  have hcl0 : cells + 4 + 0 ≤ 601024 := hcl
  have hsl0 : slots + 24 + 0 ≤ 7293034 := hsl
  refine lv_aload_n hx hb dL_law_556 rfl (lv_at hl 3 rfl) ?_
  refine lv_aload_n hx hb dL_law_557 rfl (lv_at hl 4 rfl) ?_
  refine lv_iload hx hb dL_law_558 (lv_at hl 0 rfl) ?_
  refine lv_iconst (v := 1) hx hb dL_law_560 (by decide) ?_
  refine lv_iadd hx hb dL_law_561 ?_
  refine va_sld hx hb hX hbl (Nat.not_le.mpr hbl) hS (w_in (k := 1) hi hL (by omega)) dL_law_562 ?_
  refine lv_aload_n hx hb dL_law_563 rfl (lv_at hl 4 rfl) ?_
  refine lv_iload hx hb dL_law_564 (lv_at hl 0 rfl) ?_
  refine lv_iconst (v := 2) hx hb dL_law_566 (by decide) ?_
  refine lv_iadd hx hb dL_law_567 ?_
  refine va_sld hx hb hX hbl (Nat.not_le.mpr hbl) hS (w_in (k := 2) hi hL (by omega)) dL_law_568 ?_
  refine lv_aload_n hx hb dL_law_569 rfl (lv_at hl 1 rfl) ?_
  refine i_call (Wd := fun v9 : (BS × SS × US × Int32) × (Nat → Int64) => ((fun z9 : BS × SS × US × Int32 => bw qb cI z9.1 ++ sw qs cI z9.2.1 ++ uw qu cI cB z9.2.2.1 ++ kw qk qb qr qe qs qu qx qd cI z9.2.2.2)) v9.1 ++ lo cL ao v9.2) (w0 := bw qb cI bs ++ sw qs cI s9 ++ uw qu cI cB u ++ kw qk qb qr qe qs qu qx qd cI kk ++ lo cL ao o) (wo := aw qr cI tr ++ ew qe cI te ++ xw qx cI x ++ dw qd cI cO eA rd ++ mw qm cI mm) (vx_runSW (mc := 4) (ms := 24) (As := [.ref (qk 0), .int (xs (nI i + 1).toNatClampNeg), .int (xs (nI i + 2).toNatClampNeg), .ref ao]) (rest := []) ⟨hx, hb, hml, hown, hts⟩ (mL_remove l hfl dC dI cI cB cO cL s.heap.size sT eA qb qs qu qk qr qe qx qd bs s9 u kk (xs (nI i + 1).toNatClampNeg) (xs (nI i + 2).toNatClampNeg) ao o H.size hS.1 (gC_T hG [0, 1, 2, 7, 9] rfl rfl) (gC_N hG [0, 1, 2, 7, 9] rfl rfl) kC hc9) (vx_cwSW 4 hts gW_L_remove rfl rfl rfl (by decide +kernel) ⟨Nat.le_of_ble_eq_true rfl, Nat.le_of_ble_eq_true rfl⟩) ⟨lP_blind, lP_ok (A := xA s.heap.size) (va_P.app (va_P.app (va_P.app (va_P.app hb9 hs9) hu9) hk9) ho9) hK hF hC hS (fun q h => h)⟩ rfl rfl hl.1 rfl (lv_room (Nat.le_of_ble_eq_true rfl)) dL_law_570 ⟨hcl, hsl⟩) (va_P.app (va_P.app (va_P.app (va_P.app hr9 he9) hx9) hd9) hm9) (gC_T hG [0, 1, 2, 7, 9, 3, 4, 5, 6, 8] rfl rfl) (fun q h => mem_vA h) (fun q h => mem_vA h) (gC_N hG [0, 1, 2, 7, 9] rfl rfl) hA hS (fun r9 v9 H locs hp hP hO hS => ?_)
  rw [e1, lF_eq] at hp
  obtain ⟨rfl, rfl⟩ := Prod.mk.inj hp
  have hm9 := va_P_suf hO
  have t279 := va_P_pre hO
  have hd9 := va_P_suf t279
  have t299 := va_P_pre t279
  have hx9 := va_P_suf t299
  have t319 := va_P_pre t299
  have he9 := va_P_suf t319
  have t339 := va_P_pre t319
  have hr9 := t339
  have hP : va_P (dC, dI) vwCl (bw qb cI b1 ++ sw qs cI s1 ++ uw qu cI cB u1 ++ kw qk qb qr qe qs qu qx qd cI kk ++ lo cL ao (oN c1 r1 o)) H := hP
  have ho9 := va_P_suf hP
  have t379 := va_P_pre hP
  have hk9 := va_P_suf t379
  have t399 := va_P_pre t379
  have hu9 := va_P_suf t399
  have t419 := va_P_pre t399
  have hs9 := va_P_suf t419
  have t439 := va_P_pre t419
  have hb9 := t439
  refine lv_istore (lv' := [(5, .int (rcN 2 c1)), (4, .int (nI i)), (3, .ref ao), (2, .ref (qm 0)), (1, .ref (qk 0)), (0, .ref b)]) hx hb dL_law_573 hl (by decide) rfl (fun ls hl => ?_)
  refine lv_aload_n hx hb dL_law_575 rfl (lv_at hl 3 rfl) ?_
  refine lv_aload_n hx hb dL_law_576 rfl (lv_at hl 5 rfl) ?_
  refine lv_iload hx hb dL_law_577 (lv_at hl 1 rfl) ?_
  refine lv_iconst (v := 1) hx hb dL_law_579 (by decide) ?_
  refine lv_iadd hx hb dL_law_580 ?_
  refine va_sld hx hb hX hbl (Nat.not_le.mpr hbl) hS (w_in (k := 1) hi hL (by omega)) dL_law_581 ?_
  refine lv_aload_n hx hb dL_law_582 rfl (lv_at hl 5 rfl) ?_
  refine lv_iload hx hb dL_law_583 (lv_at hl 1 rfl) ?_
  refine lv_iconst (v := 2) hx hb dL_law_585 (by decide) ?_
  refine lv_iadd hx hb dL_law_586 ?_
  refine va_sld hx hb hX hbl (Nat.not_le.mpr hbl) hS (w_in (k := 2) hi hL (by omega)) dL_law_587 ?_
  refine i_call (Wd := fun m9 => mw qm cI m9) (w0 := mw qm cI mm) (wo := bw qb cI b1 ++ sw qs cI s1 ++ uw qu cI cB u1 ++ aw qr cI tr ++ ew qe cI te ++ xw qx cI x ++ dw qd cI cO eA rd ++ kw qk qb qr qe qs qu qx qd cI kk ++ lo cL ao (oN c1 r1 o)) (va_runV (mc := 0) (ms := 0) (As := [.int (xs (nI i + 1).toNatClampNeg), .int (xs (nI i + 2).toNatClampNeg)]) (rest := []) ⟨hx, hb, hml, hown, hts⟩ (mX12_remove l dC dI cI cB cO cL qm mm (xs (nI i + 1).toNatClampNeg) (xs (nI i + 2).toNatClampNeg) hIm kM) (cwV 2 hts gW_X12_remove rfl rfl rfl (by decide +kernel) ⟨Nat.le_of_ble_eq_true rfl, Nat.le_of_ble_eq_true rfl⟩) ⟨gP_blind, va_recv hK hm9 (ci := 9) (q0 := 0) rfl rfl, gP_ok hm9 hK⟩ rfl rfl hl.1 rfl (lv_room (Nat.le_of_ble_eq_true rfl)) dL_law_588 ⟨hcl0, hsl0⟩) (va_P.app (va_P.app (va_P.app (va_P.app (va_P.app (va_P.app (va_P.app (va_P.app hb9 hs9) hu9) hr9) he9) hx9) hd9) hk9) ho9) (gC_T hG [8, 0, 1, 2, 3, 4, 5, 6, 7, 9] rfl rfl) (fun q h => Or.inl (mem_wA h)) (fun q h => Or.inl (mem_wA h)) (gC_N hG [8] rfl rfl) hA hS (fun r2 m2 H locs hp2 hm9 hO hS => ?_)
  have hp2 : (r2, m2) = pX12_remove mm (xs (nI i + 1).toNatClampNeg) (xs (nI i + 2).toNatClampNeg) := hp2
  have ho9 := va_P_suf hO
  have t609 := va_P_pre hO
  have hk9 := va_P_suf t609
  have t629 := va_P_pre t609
  have hd9 := va_P_suf t629
  have t649 := va_P_pre t629
  have hx9 := va_P_suf t649
  have t669 := va_P_pre t649
  have he9 := va_P_suf t669
  have t689 := va_P_pre t669
  have hr9 := va_P_suf t689
  have t709 := va_P_pre t689
  have hu9 := va_P_suf t709
  have t729 := va_P_pre t709
  have hs9 := va_P_suf t729
  have t749 := va_P_pre t729
  have hb9 := t749
  have e2 : r2 = (pX12_remove mm (xs (nI i + 1).toNatClampNeg) (xs (nI i + 2).toNatClampNeg)).1 := by rw [← hp2]
  have e3 : m2 = (pX12_remove mm (xs (nI i + 1).toNatClampNeg) (xs (nI i + 2).toNatClampNeg)).2 := by rw [← hp2]
  rw [← e3] at hR h3
  rw [← e2] at h4
  refine lv_istore (lv' := [(6, .int r2), (5, .int (rcN 2 c1)), (4, .int (nI i)), (3, .ref ao), (2, .ref (qm 0)), (1, .ref (qk 0)), (0, .ref b)]) hx hb dL_law_591 hl (by decide) rfl (fun ls hl => ?_)
  refine lv_aload_n hx hb dL_law_593 rfl (lv_at hl 4 rfl) ?_
  refine gro_i (va_runV (mc := 0) (ms := 0) (As := []) (rest := []) ⟨hx, hb, hml, hown, hts⟩ (mX12_thrown l dC dI cI cB cO cL qm m2) (cwV 0 hts gW_X12_thrown rfl rfl rfl (by decide +kernel) ⟨Nat.le_of_ble_eq_true rfl, Nat.le_of_ble_eq_true rfl⟩) ⟨gP_blind, va_recv hK hm9 (ci := 9) (q0 := 0) rfl rfl, gP_ok hm9 hK⟩ rfl rfl hl.1 rfl (lv_room (Nat.le_of_ble_eq_true rfl)) dL_law_594 ⟨hcl0, hsl0⟩) ?_
  refine lv_iload hx hb dL_law_597 (lv_at hl 1 rfl) ?_
  refine lv_icmp_eq (tgt := 604) hx hb dL_law_599 (by decide) (fun _ => ?_) (fun h9 => absurd (show pX12_thrown m2 = rcN 2 c1 from h3.trans hmp.symm) h9)
  refine lv_iload hx hb dL_law_604 (lv_at hl 1 rfl) ?_
  refine lv_if_ne (tgt := 621) hx hb dL_law_606 (by decide) (fun _ => ?_) (fun h9 => ?_)
  · refine lv_goto (tgt := 1972) hx hb dL_law_621 (by decide) ?_
    exact hgo b1 s1 u1 tr te x rd kk m2 ((oN c1 r1 o)) _ _ _ ⟨hb9, hs9, hu9, hr9, he9, hx9, hd9, hk9, hm9, ho9⟩ hR hS (lv_sub hl [2, 3, 4, 5, 6] rfl)
  · refine lv_aload_n hx hb dL_law_609 rfl (lv_at hl 3 rfl) ?_
    refine lv_iconst (v := 0) hx hb dL_law_610 (by decide) ?_
    refine va_lald (D := (dC, dI)) (tys := tYS cI cB cO cL) hx hb hK ho9 0 3 rfl rfl (vp_in_n (i := 0) (by omega) (by omega)) dL_law_611 ?_
    refine lv_iload hx hb dL_law_612 (lv_at hl 0 rfl) ?_
    refine lv_i2l hx hb dL_law_614 rfl ?_
    refine W.lcmp hx hb dL_law_615 ?_
    refine lv_if_eq (tgt := 621) hx hb dL_law_616 (by decide) (fun _ => ?_) (fun h8 => absurd ((lg_cmp_eq _ _).mpr ?_) h8)
    · refine lv_goto (tgt := 1972) hx hb dL_law_621 (by decide) ?_
      exact hgo b1 s1 u1 tr te x rd kk m2 ((oN c1 r1 o)) _ _ _ ⟨hb9, hs9, hu9, hr9, he9, hx9, hd9, hk9, hm9, ho9⟩ hR hS (lv_sub hl [2, 3, 4, 5, 6] rfl)
    · have h7 := rcN_0 h9
      show oN c1 r1 o 0 = r2.toInt64
      rw [oN_0 h7, h4 h7]
end CASES0
