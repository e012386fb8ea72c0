section CASES0
set_option maxHeartbeats 400000 in
set_option maxRecDepth 100000 in
theorem w_begin_t4 (p : Program) (l : Launch) (e : Env) (s : State) (m : MethodId) (below : List Frame) (meth : Method) (c : Code) (b L : Nat) (xs : Nat → Int32) (dC : Nat → ClassId) (dI : Nat → Nat → Nat) (cI cB cO cL : ClassId) (sT eA qb qs qu qr qe qx qd qk qm : Nat → Nat) (ao : Nat) (hLS : LStart p l s m meth c b L xs (dC, dI) cI cB cO cL sT eA qb qs qu qr qe qx qd qk qm ao) (i : Nat) (hi : i + 6 ≤ L) (bs : BS) (s9 : SS) (u : US) (tr te x : TS) (rd : RS) (kk : Int32) (mm : MS) (o : Nat → Int64) (H : Heap) (locs : List Loc) (ls : Array Slot) (cells slots : Nat) (hcl : cells + 4 ≤ 601024) (hsl : slots + 24 ≤ 7293034) (hI : LI (dC, dI) cI cB cO cL eA qb qs qu qr qe qx qd qk qm ao bs s9 u tr te x rd kk mm o H) (hR : SR bs s9 u x kk mm) (hS : va_S (xA s.heap.size) s.heap H locs) (hl : lv_has ls 9 (lvL b ao qm qk i)) (hgo : LGo p l e s m below meth c b (dC, dI) cI cB cO cL eA qb qs qu qr qe qx qd qk qm ao i (cells + 4) (slots + 24)) : W p l e room_1 s m #[Value.ref b] below meth c H locs cells slots (lw_Z below #[Value.ref b] s) (F0 m 180 ls []) := by
  obtain ⟨hfl, ⟨hx, hb, hr, hml, hown, hts, hlocks⟩, hK, hF, hC, hX, hbl, hL, hG⟩ := hLS
  obtain ⟨hb9, hs9, hu9, hr9, he9, hx9, hd9, hk9, hm9, ho9⟩ := hI
  have hA : ∀ q : Nat, s.heap.size ≤ q → xA s.heap.size q := fun q h => h
  have hIm : gD (fun _ => True) (mAd qm) := gC_T hG [8] rfl rfl
  sorry
set_option maxHeartbeats 400000 in
set_option maxRecDepth 100000 in
theorem w_begin_t11 (p : Program) (l : Launch) (e : Env) (s : State) (m : MethodId) (below : List Frame) (meth : Method) (c : Code) (b L : Nat) (xs : Nat → Int32) (dC : Nat → ClassId) (dI : Nat → Nat → Nat) (cI cB cO cL : ClassId) (sT eA qb qs qu qr qe qx qd qk qm : Nat → Nat) (ao : Nat) (hLS : LStart p l s m meth c b L xs (dC, dI) cI cB cO cL sT eA qb qs qu qr qe qx qd qk qm ao) (i : Nat) (hi : i + 6 ≤ L) (bs : BS) (s9 : SS) (u : US) (tr te x : TS) (rd : RS) (kk : Int32) (mm : MS) (o : Nat → Int64) (H : Heap) (locs : List Loc) (ls : Array Slot) (cells slots : Nat) (hcl : cells + 4 ≤ 601024) (hsl : slots + 24 ≤ 7293034) (hI : LI (dC, dI) cI cB cO cL eA qb qs qu qr qe qx qd qk qm ao bs s9 u tr te x rd kk mm o H) (hR : SR bs s9 u x kk mm) (hS : va_S (xA s.heap.size) s.heap H locs) (hl : lv_has ls 9 (lvL b ao qm qk i)) (hgo : LGo p l e s m below meth c b (dC, dI) cI cB cO cL eA qb qs qu qr qe qx qd qk qm ao i (cells + 4) (slots + 24)) : W p l e room_1 s m #[Value.ref b] below meth c H locs cells slots (lw_Z below #[Value.ref b] s) (F0 m 180 ls []) := by
  obtain ⟨hfl, ⟨hx, hb, hr, hml, hown, hts, hlocks⟩, hK, hF, hC, hX, hbl, hL, hG⟩ := hLS
  obtain ⟨hb9, hs9, hu9, hr9, he9, hx9, hd9, hk9, hm9, ho9⟩ := hI
  have hA : ∀ q : Nat, s.heap.size ≤ q → xA s.heap.size q := fun q h => h
  have hIm : gD (fun _ => True) (mAd qm) := gC_T hG [8] rfl rfl
  obtain ⟨c1, r1, b1, s1, u1, e1, kC, kM, hR, ⟨h3, h4⟩, -⟩ := begin_op hR (xs (nI i + 1).toNatClampNeg) (xs (nI i + 2).toNatClampNeg)
  have hc9 := cod_begin (P := fun z => z = 0 ∨ z = 2) bs s9 u kk (xs (nI i + 1).toNatClampNeg) (xs (nI i + 2).toNatClampNeg) (by decide) (by decide)
  have hmp := cod_begin (P := fun z => rcN 2 z = mpA z) bs s9 u kk (xs (nI i + 1).toNatClampNeg) (xs (nI i + 2).toNatClampNeg) (by decide) (by decide)
  rw [e1] at hmp
  have hmp : rcN 2 c1 = mpA c1 := hmp
  have hcl0 : cells + 4 + 0 ≤ 601024 := hcl
  have hsl0 : slots + 24 + 0 ≤ 7293034 := hsl
  sorry
set_option maxHeartbeats 400000 in
set_option maxRecDepth 100000 in
theorem w_begin_t24 (p : Program) (l : Launch) (e : Env) (s : State) (m : MethodId) (below : List Frame) (meth : Method) (c : Code) (b L : Nat) (xs : Nat → Int32) (dC : Nat → ClassId) (dI : Nat → Nat → Nat) (cI cB cO cL : ClassId) (sT eA qb qs qu qr qe qx qd qk qm : Nat → Nat) (ao : Nat) (hLS : LStart p l s m meth c b L xs (dC, dI) cI cB cO cL sT eA qb qs qu qr qe qx qd qk qm ao) (i : Nat) (hi : i + 6 ≤ L) (bs : BS) (s9 : SS) (u : US) (tr te x : TS) (rd : RS) (kk : Int32) (mm : MS) (o : Nat → Int64) (H : Heap) (locs : List Loc) (ls : Array Slot) (cells slots : Nat) (hcl : cells + 4 ≤ 601024) (hsl : slots + 24 ≤ 7293034) (hI : LI (dC, dI) cI cB cO cL eA qb qs qu qr qe qx qd qk qm ao bs s9 u tr te x rd kk mm o H) (hR : SR bs s9 u x kk mm) (hS : va_S (xA s.heap.size) s.heap H locs) (hl : lv_has ls 9 (lvL b ao qm qk i)) (hgo : LGo p l e s m below meth c b (dC, dI) cI cB cO cL eA qb qs qu qr qe qx qd qk qm ao i (cells + 4) (slots + 24)) : W p l e room_1 s m #[Value.ref b] below meth c H locs cells slots (lw_Z below #[Value.ref b] s) (F0 m 180 ls []) := by
  obtain ⟨hfl, ⟨hx, hb, hr, hml, hown, hts, hlocks⟩, hK, hF, hC, hX, hbl, hL, hG⟩ := hLS
  obtain ⟨hb9, hs9, hu9, hr9, he9, hx9, hd9, hk9, hm9, ho9⟩ := hI
  have hA : ∀ q : Nat, s.heap.size ≤ q → xA s.heap.size q := fun q h => h
  have hIm : gD (fun _ => True) (mAd qm) := gC_T hG [8] rfl rfl
  obtain ⟨c1, r1, b1, s1, u1, e1, kC, kM, hR, ⟨h3, h4⟩, -⟩ := begin_op hR (xs (nI i + 1).toNatClampNeg) (xs (nI i + 2).toNatClampNeg)
  have hc9 := cod_begin (P := fun z => z = 0 ∨ z = 2) bs s9 u kk (xs (nI i + 1).toNatClampNeg) (xs (nI i + 2).toNatClampNeg) (by decide) (by decide)
  have hmp := cod_begin (P := fun z => rcN 2 z = mpA z) bs s9 u kk (xs (nI i + 1).toNatClampNeg) (xs (nI i + 2).toNatClampNeg) (by decide) (by decide)
  rw [e1] at hmp
  have hmp : rcN 2 c1 = mpA c1 := hmp
  have hcl0 : cells + 4 + 0 ≤ 601024 := hcl
  have hsl0 : slots + 24 + 0 ≤ 7293034 := hsl
  refine lv_aload_n hx hb dL_law_180 rfl (lv_at hl 3 rfl) ?_
  refine lv_aload_n hx hb dL_law_181 rfl (lv_at hl 4 rfl) ?_
  refine lv_iload hx hb dL_law_182 (lv_at hl 0 rfl) ?_
  refine lv_iconst (v := 1) hx hb dL_law_184 (by decide) ?_
  refine lv_iadd hx hb dL_law_185 ?_
  refine va_sld hx hb hX hbl (Nat.not_le.mpr hbl) hS (w_in (k := 1) hi hL (by omega)) dL_law_186 ?_
  refine lv_aload_n hx hb dL_law_187 rfl (lv_at hl 4 rfl) ?_
  refine lv_iload hx hb dL_law_188 (lv_at hl 0 rfl) ?_
  refine lv_iconst (v := 2) hx hb dL_law_190 (by decide) ?_
  refine lv_iadd hx hb dL_law_191 ?_
  refine va_sld hx hb hX hbl (Nat.not_le.mpr hbl) hS (w_in (k := 2) hi hL (by omega)) dL_law_192 ?_
  refine lv_aload_n hx hb dL_law_193 rfl (lv_at hl 1 rfl) ?_
  refine i_call (Wd := fun v9 => ((fun z9 : BS × SS × US × Int32 => bw qb cI z9.1 ++ sw qs cI z9.2.1 ++ uw qu cI cB z9.2.2.1 ++ kw qk qb qr qe qs qu qx qd cI z9.2.2.2) : _ → va_W) v9.1 ++ lo cL ao v9.2) (w0 := bw qb cI bs ++ sw qs cI s9 ++ uw qu cI cB u ++ kw qk qb qr qe qs qu qx qd cI kk ++ lo cL ao o) (wo := aw qr cI tr ++ ew qe cI te ++ xw qx cI x ++ dw qd cI cO eA rd ++ mw qm cI mm) (vx_runSW (As := [.ref (qk 0), .int (xs (nI i + 1).toNatClampNeg), .int (xs (nI i + 2).toNatClampNeg), .ref ao]) (rest := []) ⟨hx, hb, hml, hown, hts⟩ (mL_begin l hfl dC dI cI cB cO cL s.heap.size sT eA qb qs qu qk qr qe qx qd bs s9 u kk (xs (nI i + 1).toNatClampNeg) (xs (nI i + 2).toNatClampNeg) ao o H.size hS.1 (gC_T hG [0, 1, 2, 7, 9] rfl rfl) (gC_N hG [0, 1, 2, 7, 9] rfl rfl) kC hc9) (vx_cwSW 4 hts gW_L_begin rfl rfl rfl (by decide +kernel) ⟨Nat.le_of_ble_eq_true rfl, Nat.le_of_ble_eq_true rfl⟩) ⟨lP_blind, lP_ok (A := xA s.heap.size) (va_P.app (va_P.app (va_P.app (va_P.app hb9 hs9) hu9) hk9) ho9) hK hF hC hS (fun q h => h)⟩ rfl rfl hl.1 rfl (lv_room (Nat.le_of_ble_eq_true rfl)) dL_law_194 ⟨hcl, hsl⟩) (va_P.app (va_P.app (va_P.app (va_P.app hr9 he9) hx9) hd9) hm9) (gC_T hG [0, 1, 2, 7, 9, 3, 4, 5, 6, 8] rfl rfl) (fun q h => mem_vA h) (fun q h => mem_vA h) (gC_N hG [0, 1, 2, 7, 9] rfl rfl) hA hS (fun r9 v9 H locs hp hP hO hS => ?_)
  sorry
set_option maxHeartbeats 400000 in
set_option maxRecDepth 100000 in
theorem w_begin_t26 (p : Program) (l : Launch) (e : Env) (s : State) (m : MethodId) (below : List Frame) (meth : Method) (c : Code) (b L : Nat) (xs : Nat → Int32) (dC : Nat → ClassId) (dI : Nat → Nat → Nat) (cI cB cO cL : ClassId) (sT eA qb qs qu qr qe qx qd qk qm : Nat → Nat) (ao : Nat) (hLS : LStart p l s m meth c b L xs (dC, dI) cI cB cO cL sT eA qb qs qu qr qe qx qd qk qm ao) (i : Nat) (hi : i + 6 ≤ L) (bs : BS) (s9 : SS) (u : US) (tr te x : TS) (rd : RS) (kk : Int32) (mm : MS) (o : Nat → Int64) (H : Heap) (locs : List Loc) (ls : Array Slot) (cells slots : Nat) (hcl : cells + 4 ≤ 601024) (hsl : slots + 24 ≤ 7293034) (hI : LI (dC, dI) cI cB cO cL eA qb qs qu qr qe qx qd qk qm ao bs s9 u tr te x rd kk mm o H) (hR : SR bs s9 u x kk mm) (hS : va_S (xA s.heap.size) s.heap H locs) (hl : lv_has ls 9 (lvL b ao qm qk i)) (hgo : LGo p l e s m below meth c b (dC, dI) cI cB cO cL eA qb qs qu qr qe qx qd qk qm ao i (cells + 4) (slots + 24)) : W p l e room_1 s m #[Value.ref b] below meth c H locs cells slots (lw_Z below #[Value.ref b] s) (F0 m 180 ls []) := by
  obtain ⟨hfl, ⟨hx, hb, hr, hml, hown, hts, hlocks⟩, hK, hF, hC, hX, hbl, hL, hG⟩ := hLS
  obtain ⟨hb9, hs9, hu9, hr9, he9, hx9, hd9, hk9, hm9, ho9⟩ := hI
  have hA : ∀ q : Nat, s.heap.size ≤ q → xA s.heap.size q := fun q h => h
  have hIm : gD (fun _ => True) (mAd qm) := gC_T hG [8] rfl rfl
  obtain ⟨c1, r1, b1, s1, u1, e1, kC, kM, hR, ⟨h3, h4⟩, -⟩ := begin_op hR (xs (nI i + 1).toNatClampNeg) (xs (nI i + 2).toNatClampNeg)
  have hc9 := cod_begin (P := fun z => z = 0 ∨ z = 2) bs s9 u kk (xs (nI i + 1).toNatClampNeg) (xs (nI i + 2).toNatClampNeg) (by decide) (by decide)
  have hmp := cod_begin (P := fun z => rcN 2 z = mpA z) bs s9 u kk (xs (nI i + 1).toNatClampNeg) (xs (nI i + 2).toNatClampNeg) (by decide) (by decide)
  rw [e1] at hmp
  have hmp : rcN 2 c1 = mpA c1 := hmp
  have hcl0 : cells + 4 + 0 ≤ 601024 := hcl
  have hsl0 : slots + 24 + 0 ≤ 7293034 := hsl
  refine lv_aload_n hx hb dL_law_180 rfl (lv_at hl 3 rfl) ?_
  refine lv_aload_n hx hb dL_law_181 rfl (lv_at hl 4 rfl) ?_
  refine lv_iload hx hb dL_law_182 (lv_at hl 0 rfl) ?_
  refine lv_iconst (v := 1) hx hb dL_law_184 (by decide) ?_
  refine lv_iadd hx hb dL_law_185 ?_
  refine va_sld hx hb hX hbl (Nat.not_le.mpr hbl) hS (w_in (k := 1) hi hL (by omega)) dL_law_186 ?_
  refine lv_aload_n hx hb dL_law_187 rfl (lv_at hl 4 rfl) ?_
  refine lv_iload hx hb dL_law_188 (lv_at hl 0 rfl) ?_
  refine lv_iconst (v := 2) hx hb dL_law_190 (by decide) ?_
  refine lv_iadd hx hb dL_law_191 ?_
  refine va_sld hx hb hX hbl (Nat.not_le.mpr hbl) hS (w_in (k := 2) hi hL (by omega)) dL_law_192 ?_
  refine lv_aload_n hx hb dL_law_193 rfl (lv_at hl 1 rfl) ?_
  refine i_call (Wd := fun v9 => ((fun z9 : BS × SS × US × Int32 => bw qb cI z9.1 ++ sw qs cI z9.2.1 ++ uw qu cI cB z9.2.2.1 ++ kw qk qb qr qe qs qu qx qd cI z9.2.2.2) : _ → va_W) v9.1 ++ lo cL ao v9.2) (w0 := bw qb cI bs ++ sw qs cI s9 ++ uw qu cI cB u ++ kw qk qb qr qe qs qu qx qd cI kk ++ lo cL ao o) (wo := aw qr cI tr ++ ew qe cI te ++ xw qx cI x ++ dw qd cI cO eA rd ++ mw qm cI mm) (vx_runSW (As := [.ref (qk 0), .int (xs (nI i + 1).toNatClampNeg), .int (xs (nI i + 2).toNatClampNeg), .ref ao]) (rest := []) ⟨hx, hb, hml, hown, hts⟩ (mL_begin l hfl dC dI cI cB cO cL s.heap.size sT eA qb qs qu qk qr qe qx qd bs s9 u kk (xs (nI i + 1).toNatClampNeg) (xs (nI i + 2).toNatClampNeg) ao o H.size hS.1 (gC_T hG [0, 1, 2, 7, 9] rfl rfl) (gC_N hG [0, 1, 2, 7, 9] rfl rfl) kC hc9) (vx_cwSW 4 hts gW_L_begin rfl rfl rfl (by decide +kernel) ⟨Nat.le_of_ble_eq_true rfl, Nat.le_of_ble_eq_true rfl⟩) ⟨lP_blind, lP_ok (A := xA s.heap.size) (va_P.app (va_P.app (va_P.app (va_P.app hb9 hs9) hu9) hk9) ho9) hK hF hC hS (fun q h => h)⟩ rfl rfl hl.1 rfl (lv_room (Nat.le_of_ble_eq_true rfl)) dL_law_194 ⟨hcl, hsl⟩) (va_P.app (va_P.app (va_P.app (va_P.app hr9 he9) hx9) hd9) hm9) (gC_T hG [0, 1, 2, 7, 9, 3, 4, 5, 6, 8] rfl rfl) (fun q h => mem_vA h) (fun q h => mem_vA h) (gC_N hG [0, 1, 2, 7, 9] rfl rfl) hA hS (fun r9 v9 H locs hp hP hO hS => ?_)
  rw [e1, lF_eq] at hp
  obtain ⟨rfl, rfl⟩ := Prod.mk.inj hp
  sorry
set_option maxHeartbeats 400000 in
set_option maxRecDepth 100000 in
theorem w_begin_t58 (p : Program) (l : Launch) (e : Env) (s : State) (m : MethodId) (below : List Frame) (meth : Method) (c : Code) (b L : Nat) (xs : Nat → Int32) (dC : Nat → ClassId) (dI : Nat → Nat → Nat) (cI cB cO cL : ClassId) (sT eA qb qs qu qr qe qx qd qk qm : Nat → Nat) (ao : Nat) (hLS : LStart p l s m meth c b L xs (dC, dI) cI cB cO cL sT eA qb qs qu qr qe qx qd qk qm ao) (i : Nat) (hi : i + 6 ≤ L) (bs : BS) (s9 : SS) (u : US) (tr te x : TS) (rd : RS) (kk : Int32) (mm : MS) (o : Nat → Int64) (H : Heap) (locs : List Loc) (ls : Array Slot) (cells slots : Nat) (hcl : cells + 4 ≤ 601024) (hsl : slots + 24 ≤ 7293034) (hI : LI (dC, dI) cI cB cO cL eA qb qs qu qr qe qx qd qk qm ao bs s9 u tr te x rd kk mm o H) (hR : SR bs s9 u x kk mm) (hS : va_S (xA s.heap.size) s.heap H locs) (hl : lv_has ls 9 (lvL b ao qm qk i)) (hgo : LGo p l e s m below meth c b (dC, dI) cI cB cO cL eA qb qs qu qr qe qx qd qk qm ao i (cells + 4) (slots + 24)) : W p l e room_1 s m #[Value.ref b] below meth c H locs cells slots (lw_Z below #[Value.ref b] s) (F0 m 180 ls []) := by
  obtain ⟨hfl, ⟨hx, hb, hr, hml, hown, hts, hlocks⟩, hK, hF, hC, hX, hbl, hL, hG⟩ := hLS
  obtain ⟨hb9, hs9, hu9, hr9, he9, hx9, hd9, hk9, hm9, ho9⟩ := hI
  have hA : ∀ q : Nat, s.heap.size ≤ q → xA s.heap.size q := fun q h => h
  have hIm : gD (fun _ => True) (mAd qm) := gC_T hG [8] rfl rfl
  obtain ⟨c1, r1, b1, s1, u1, e1, kC, kM, hR, ⟨h3, h4⟩, -⟩ := begin_op hR (xs (nI i + 1).toNatClampNeg) (xs (nI i + 2).toNatClampNeg)
  have hc9 := cod_begin (P := fun z => z = 0 ∨ z = 2) bs s9 u kk (xs (nI i + 1).toNatClampNeg) (xs (nI i + 2).toNatClampNeg) (by decide) (by decide)
  have hmp := cod_begin (P := fun z => rcN 2 z = mpA z) bs s9 u kk (xs (nI i + 1).toNatClampNeg) (xs (nI i + 2).toNatClampNeg) (by decide) (by decide)
  rw [e1] at hmp
  have hmp : rcN 2 c1 = mpA c1 := hmp
  have hcl0 : cells + 4 + 0 ≤ 601024 := hcl
  have hsl0 : slots + 24 + 0 ≤ 7293034 := hsl
  refine lv_aload_n hx hb dL_law_180 rfl (lv_at hl 3 rfl) ?_
  refine lv_aload_n hx hb dL_law_181 rfl (lv_at hl 4 rfl) ?_
  refine lv_iload hx hb dL_law_182 (lv_at hl 0 rfl) ?_
  refine lv_iconst (v := 1) hx hb dL_law_184 (by decide) ?_
  refine lv_iadd hx hb dL_law_185 ?_
  refine va_sld hx hb hX hbl (Nat.not_le.mpr hbl) hS (w_in (k := 1) hi hL (by omega)) dL_law_186 ?_
  refine lv_aload_n hx hb dL_law_187 rfl (lv_at hl 4 rfl) ?_
  refine lv_iload hx hb dL_law_188 (lv_at hl 0 rfl) ?_
  refine lv_iconst (v := 2) hx hb dL_law_190 (by decide) ?_
  refine lv_iadd hx hb dL_law_191 ?_
  refine va_sld hx hb hX hbl (Nat.not_le.mpr hbl) hS (w_in (k := 2) hi hL (by omega)) dL_law_192 ?_
  refine lv_aload_n hx hb dL_law_193 rfl (lv_at hl 1 rfl) ?_
  refine i_call (Wd := fun v9 => ((fun z9 : BS × SS × US × Int32 => bw qb cI z9.1 ++ sw qs cI z9.2.1 ++ uw qu cI cB z9.2.2.1 ++ kw qk qb qr qe qs qu qx qd cI z9.2.2.2) : _ → va_W) v9.1 ++ lo cL ao v9.2) (w0 := bw qb cI bs ++ sw qs cI s9 ++ uw qu cI cB u ++ kw qk qb qr qe qs qu qx qd cI kk ++ lo cL ao o) (wo := aw qr cI tr ++ ew qe cI te ++ xw qx cI x ++ dw qd cI cO eA rd ++ mw qm cI mm) (vx_runSW (As := [.ref (qk 0), .int (xs (nI i + 1).toNatClampNeg), .int (xs (nI i + 2).toNatClampNeg), .ref ao]) (rest := []) ⟨hx, hb, hml, hown, hts⟩ (mL_begin l hfl dC dI cI cB cO cL s.heap.size sT eA qb qs qu qk qr qe qx qd bs s9 u kk (xs (nI i + 1).toNatClampNeg) (xs (nI i + 2).toNatClampNeg) ao o H.size hS.1 (gC_T hG [0, 1, 2, 7, 9] rfl rfl) (gC_N hG [0, 1, 2, 7, 9] rfl rfl) kC hc9) (vx_cwSW 4 hts gW_L_begin rfl rfl rfl (by decide +kernel) ⟨Nat.le_of_ble_eq_true rfl, Nat.le_of_ble_eq_true rfl⟩) ⟨lP_blind, lP_ok (A := xA s.heap.size) (va_P.app (va_P.app (va_P.app (va_P.app hb9 hs9) hu9) hk9) ho9) hK hF hC hS (fun q h => h)⟩ rfl rfl hl.1 rfl (lv_room (Nat.le_of_ble_eq_true rfl)) dL_law_194 ⟨hcl, hsl⟩) (va_P.app (va_P.app (va_P.app (va_P.app hr9 he9) hx9) hd9) hm9) (gC_T hG [0, 1, 2, 7, 9, 3, 4, 5, 6, 8] rfl rfl) (fun q h => mem_vA h) (fun q h => mem_vA h) (gC_N hG [0, 1, 2, 7, 9] rfl rfl) hA hS (fun r9 v9 H locs hp hP hO hS => ?_)
  rw [e1, lF_eq] at hp
  obtain ⟨rfl, rfl⟩ := Prod.mk.inj hp
  have hm9 := va_P_suf hO
  have t279 := va_P_pre hO
  have hd9 := va_P_suf t279
  have t299 := va_P_pre t279
  have hx9 := va_P_suf t299
  have t319 := va_P_pre t299
  have he9 := va_P_suf t319
  have t339 := va_P_pre t319
  have hr9 := t339
  have hP : va_P (dC, dI) vwCl (bw qb cI b1 ++ sw qs cI s1 ++ uw qu cI cB u1 ++ kw qk qb qr qe qs qu qx qd cI kk ++ lo cL ao (oN c1 r1 o)) H := hP
  have ho9 := va_P_suf hP
  have t379 := va_P_pre hP
  have hk9 := va_P_suf t379
  have t399 := va_P_pre t379
  have hu9 := va_P_suf t399
  have t419 := va_P_pre t399
  have hs9 := va_P_suf t419
  have t439 := va_P_pre t419
  have hb9 := t439
  refine lv_istore (lv' := [(5, .int (rcN 2 c1)), (4, .int (nI i)), (3, .ref ao), (2, .ref (qm 0)), (1, .ref (qk 0)), (0, .ref b)]) hx hb dL_law_197 hl (by decide) rfl (fun ls hl => ?_)
  refine lv_aload_n hx hb dL_law_199 rfl (lv_at hl 3 rfl) ?_
  refine lv_aload_n hx hb dL_law_200 rfl (lv_at hl 5 rfl) ?_
  refine lv_iload hx hb dL_law_201 (lv_at hl 1 rfl) ?_
  refine lv_iconst (v := 1) hx hb dL_law_203 (by decide) ?_
  refine lv_iadd hx hb dL_law_204 ?_
  refine va_sld hx hb hX hbl (Nat.not_le.mpr hbl) hS (w_in (k := 1) hi hL (by omega)) dL_law_205 ?_
  refine lv_aload_n hx hb dL_law_206 rfl (lv_at hl 5 rfl) ?_
  refine lv_iload hx hb dL_law_207 (lv_at hl 1 rfl) ?_
  refine lv_iconst (v := 2) hx hb dL_law_209 (by decide) ?_
  refine lv_iadd hx hb dL_law_210 ?_
  refine va_sld hx hb hX hbl (Nat.not_le.mpr hbl) hS (w_in (k := 2) hi hL (by omega)) dL_law_211 ?_
  refine i_call (Wd := fun m9 => mw qm cI m9) (w0 := mw qm cI mm) (wo := bw qb cI b1 ++ sw qs cI s1 ++ uw qu cI cB u1 ++ aw qr cI tr ++ ew qe cI te ++ xw qx cI x ++ dw qd cI cO eA rd ++ kw qk qb qr qe qs qu qx qd cI kk ++ lo cL ao (oN c1 r1 o)) (va_runV (As := [.int (xs (nI i + 1).toNatClampNeg), .int (xs (nI i + 2).toNatClampNeg)]) (rest := []) ⟨hx, hb, hml, hown, hts⟩ (mX12_begin l dC dI cI cB cO cL qm mm (xs (nI i + 1).toNatClampNeg) (xs (nI i + 2).toNatClampNeg) hIm kM) (cwV 2 hts gW_X12_begin rfl rfl rfl (by decide +kernel) ⟨Nat.le_of_ble_eq_true rfl, Nat.le_of_ble_eq_true rfl⟩) ⟨gP_blind, va_recv hK hm9 (ci := 9) (q0 := 0) rfl rfl, gP_ok hm9 hK⟩ rfl rfl hl.1 rfl (lv_room (Nat.le_of_ble_eq_true rfl)) dL_law_212 ⟨hcl0, hsl0⟩) (va_P.app (va_P.app (va_P.app (va_P.app (va_P.app (va_P.app (va_P.app (va_P.app hb9 hs9) hu9) hr9) he9) hx9) hd9) hk9) ho9) (gC_T hG [8, 0, 1, 2, 3, 4, 5, 6, 7, 9] rfl rfl) (fun q h => Or.inl (mem_wA h)) (fun q h => Or.inl (mem_wA h)) (gC_N hG [8] rfl rfl) hA hS (fun r2 m2 H locs hp2 hm9 hO hS => ?_)
  sorry
end CASES0
