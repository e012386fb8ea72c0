/-! THE LAW: cases of its loop, those without a helper -/
section CASES4
set_option maxHeartbeats 4000000 in
set_option maxRecDepth 100000 in
theorem w_found (p : Program) (l : Launch) (e : Env) (s : State) (m : MethodId) (below : List Frame) (meth : Method) (c : Code) (b L : Nat) (xs : Nat → Int32) (dC : Nat → ClassId) (dI : Nat → Nat → Nat) (cI cB cO cL : ClassId) (sT eA qb qs qu qr qe qx qd qk qm : Nat → Nat) (ao : Nat) (hLS : LStart p l s m meth c b L xs (dC, dI) cI cB cO cL sT eA qb qs qu qr qe qx qd qk qm ao) (i : Nat) (hi : i + 6 ≤ L) (bs : BS) (s9 : SS) (u : US) (tr te x : TS) (rd : RS) (kk : Int32) (mm : MS) (o : Nat → Int64) (H : Heap) (locs : List Loc) (ls : Array Slot) (cells slots : Nat) (hcl : cells + 4 ≤ 601024) (hsl : slots + 24 ≤ 7293034) (hI : LI (dC, dI) cI cB cO cL eA qb qs qu qr qe qx qd qk qm ao bs s9 u tr te x rd kk mm o H) (hR : SR bs s9 u x kk mm) (hS : va_S (xA s.heap.size) s.heap H locs) (hl : lv_has ls 9 (lvL b ao qm qk i)) (hgo : LGo p l e s m below meth c b (dC, dI) cI cB cO cL eA qb qs qu qr qe qx qd qk qm ao i (cells + 4) (slots + 24)) : W p l e room_1 s m #[Value.ref b] below meth c H locs cells slots (lw_Z below #[Value.ref b] s) (F0 m 1476 ls []) := by
  obtain ⟨hfl, ⟨hx, hb, hr, hml, hown, hts, hlocks⟩, hK, hF, hC, hX, hbl, hL, hG⟩ := hLS
  obtain ⟨hb9, hs9, hu9, hr9, he9, hx9, hd9, hk9, hm9, ho9⟩ := hI
  have hA : ∀ q : Nat, s.heap.size ≤ q → xA s.heap.size q := fun q h => h
  have hIm : gD (fun _ => True) (mAd qm) := gC_T hG [8] rfl rfl
  have hcl0 : cells ≤ 601024 := Nat.le_trans (Nat.le_add_right _ _) hcl
  have hsl0 : slots ≤ 7293034 := Nat.le_trans (Nat.le_add_right _ _) hsl
  obtain ⟨r1, s1, e1, kC, kM, hR, h4⟩ := found_op hR
  refine lv_aload_n hx hb dL_law_1476 rfl (lv_at hl 3 rfl) ?_
  refine i_call (Wd := fun z9 : SS × BS × Int32 => sw qs cI z9.1 ++ bw qb cI z9.2.1 ++ kw qk qb qr qe qs qu qx qd cI z9.2.2) (w0 := sw qs cI s9 ++ bw qb cI bs ++ kw qk qb qr qe qs qu qx qd cI kk) (wo := uw qu cI cB u ++ aw qr cI tr ++ ew qe cI te ++ xw qx cI x ++ dw qd cI cO eA rd ++ mw qm cI mm ++ lo cL ao o) (va_runV (mc := 0) (ms := 0) (As := []) (rest := []) ⟨hx, hb, hml, hown, hts⟩ (mX11_found l dC dI cI cB cO cL qs qb qk qr qe qu qx qd s9 bs kk (gC_T hG [1, 0, 7] rfl rfl) kC) (cwV 0 hts gW_X11_found rfl rfl rfl (by decide +kernel) ⟨Nat.le_of_ble_eq_true rfl, Nat.le_of_ble_eq_true rfl⟩) ⟨cP_blind, va_recv hK (va_P.app (va_P.app hs9 hb9) hk9) (ci := 8) (q0 := 14) rfl rfl, cP_ok (va_P.app (va_P.app hs9 hb9) hk9) hK hF.1⟩ rfl rfl hl.1 rfl (lv_room (Nat.le_of_ble_eq_true rfl)) dL_law_1477 ⟨hcl0, hsl0⟩) (va_P.app (va_P.app (va_P.app (va_P.app (va_P.app (va_P.app hu9 hr9) he9) hx9) hd9) hm9) ho9) (gC_T hG [1, 0, 7, 2, 3, 4, 5, 6, 8, 9] rfl rfl) (fun q h => Or.inl (mem_wA h)) (fun q h => Or.inl (mem_wA h)) (gC_N hG [1, 0, 7] rfl rfl) hA hS (fun r9 v9 H locs hp hP hO hS => ?_)
  have hp : (r9, v9) = _ := hp
  rw [e1] at hp
  obtain ⟨rfl, rfl⟩ := Prod.mk.inj hp
  have ho9 := va_P_suf hO
  have t139 := va_P_pre hO
  have hm9 := va_P_suf t139
  have t159 := va_P_pre t139
  have hd9 := va_P_suf t159
  have t179 := va_P_pre t159
  have hx9 := va_P_suf t179
  have t199 := va_P_pre t179
  have he9 := va_P_suf t199
  have t219 := va_P_pre t199
  have hr9 := va_P_suf t219
  have t239 := va_P_pre t219
  have hu9 := t239
  have hP : va_P (dC, dI) vwCl (sw qs cI s1 ++ bw qb cI bs ++ kw qk qb qr qe qs qu qx qd cI kk) H := hP
  have hk9 := va_P_suf hP
  have t279 := va_P_pre hP
  have hb9 := va_P_suf t279
  have t299 := va_P_pre t279
  have hs9 := t299
  refine lv_aload_n hx hb dL_law_1480 rfl (lv_at hl 2 rfl) ?_
  refine i_call (Wd := fun m9 => mw qm cI m9) (w0 := mw qm cI mm) (wo := bw qb cI bs ++ sw qs cI s1 ++ uw qu cI cB u ++ aw qr cI tr ++ ew qe cI te ++ xw qx cI x ++ dw qd cI cO eA rd ++ kw qk qb qr qe qs qu qx qd cI kk ++ lo cL ao o) (va_runV (mc := 0) (ms := 0) (As := []) (rest := [.int r9]) ⟨hx, hb, hml, hown, hts⟩ (mX12_found l dC dI cI cB cO cL qm mm hIm kM) (cwV 0 hts gW_X12_found rfl rfl rfl (by decide +kernel) ⟨Nat.le_of_ble_eq_true rfl, Nat.le_of_ble_eq_true rfl⟩) ⟨gP_blind, va_recv hK hm9 (ci := 9) (q0 := 0) rfl rfl, gP_ok hm9 hK⟩ rfl rfl hl.1 rfl (lv_room (Nat.le_of_ble_eq_true rfl)) dL_law_1481 ⟨hcl0, hsl0⟩) (va_P.app (va_P.app (va_P.app (va_P.app (va_P.app (va_P.app (va_P.app (va_P.app hb9 hs9) hu9) hr9) he9) hx9) hd9) hk9) ho9) (gC_T hG [8, 0, 1, 2, 3, 4, 5, 6, 7, 9] rfl rfl) (fun q h => Or.inl (mem_wA h)) (fun q h => Or.inl (mem_wA h)) (gC_N hG [8] rfl rfl) hA hS (fun r2 m2 H locs hp2 hm9 hO hS => ?_)
  have hp2 : (r2, m2) = pX12_found mm := hp2
  have ho9 := va_P_suf hO
  have t359 := va_P_pre hO
  have hk9 := va_P_suf t359
  have t379 := va_P_pre t359
  have hd9 := va_P_suf t379
  have t399 := va_P_pre t379
  have hx9 := va_P_suf t399
  have t419 := va_P_pre t399
  have he9 := va_P_suf t419
  have t439 := va_P_pre t419
  have hr9 := va_P_suf t439
  have t459 := va_P_pre t439
  have hu9 := va_P_suf t459
  have t479 := va_P_pre t459
  have hs9 := va_P_suf t479
  have t499 := va_P_pre t479
  have hb9 := t499
  have e2 : r2 = (pX12_found mm).1 := by rw [← hp2]
  have e3 : m2 = (pX12_found mm).2 := by rw [← hp2]
  rw [← e3] at hR
  rw [← e2] at h4
  refine lv_icmp_eq (tgt := 1972) hx hb dL_law_1484 (by decide) (fun _ => ?_) (fun h9 => absurd h4 h9)
  exact W.widen (Nat.le_add_right cells 4) (Nat.le_add_right slots 24) (hgo bs s1 u tr te x rd kk m2 o _ _ _ ⟨hb9, hs9, hu9, hr9, he9, hx9, hd9, hk9, hm9, ho9⟩ hR hS hl)
set_option maxHeartbeats 4000000 in
set_option maxRecDepth 100000 in
theorem w_suspect (p : Program) (l : Launch) (e : Env) (s : State) (m : MethodId) (below : List Frame) (meth : Method) (c : Code) (b L : Nat) (xs : Nat → Int32) (dC : Nat → ClassId) (dI : Nat → Nat → Nat) (cI cB cO cL : ClassId) (sT eA qb qs qu qr qe qx qd qk qm : Nat → Nat) (ao : Nat) (hLS : LStart p l s m meth c b L xs (dC, dI) cI cB cO cL sT eA qb qs qu qr qe qx qd qk qm ao) (i : Nat) (hi : i + 6 ≤ L) (bs : BS) (s9 : SS) (u : US) (tr te x : TS) (rd : RS) (kk : Int32) (mm : MS) (o : Nat → Int64) (H : Heap) (locs : List Loc) (ls : Array Slot) (cells slots : Nat) (hcl : cells + 4 ≤ 601024) (hsl : slots + 24 ≤ 7293034) (hI : LI (dC, dI) cI cB cO cL eA qb qs qu qr qe qx qd qk qm ao bs s9 u tr te x rd kk mm o H) (hR : SR bs s9 u x kk mm) (hS : va_S (xA s.heap.size) s.heap H locs) (hl : lv_has ls 9 (lvL b ao qm qk i)) (hgo : LGo p l e s m below meth c b (dC, dI) cI cB cO cL eA qb qs qu qr qe qx qd qk qm ao i (cells + 4) (slots + 24)) : W p l e room_1 s m #[Value.ref b] below meth c H locs cells slots (lw_Z below #[Value.ref b] s) (F0 m 1614 ls []) := by
  obtain ⟨hfl, ⟨hx, hb, hr, hml, hown, hts, hlocks⟩, hK, hF, hC, hX, hbl, hL, hG⟩ := hLS
  obtain ⟨hb9, hs9, hu9, hr9, he9, hx9, hd9, hk9, hm9, ho9⟩ := hI
  have hA : ∀ q : Nat, s.heap.size ≤ q → xA s.heap.size q := fun q h => h
  have hIm : gD (fun _ => True) (mAd qm) := gC_T hG [8] rfl rfl
  have hcl0 : cells ≤ 601024 := Nat.le_trans (Nat.le_add_right _ _) hcl
  have hsl0 : slots ≤ 7293034 := Nat.le_trans (Nat.le_add_right _ _) hsl
  obtain ⟨r1, s1, e1, kC, kM, hR, h4⟩ := suspect_op hR
  refine lv_aload_n hx hb dL_law_1614 rfl (lv_at hl 3 rfl) ?_
  refine i_call (Wd := fun z9 : SS × BS × Int32 => sw qs cI z9.1 ++ bw qb cI z9.2.1 ++ kw qk qb qr qe qs qu qx qd cI z9.2.2) (w0 := sw qs cI s9 ++ bw qb cI bs ++ kw qk qb qr qe qs qu qx qd cI kk) (wo := uw qu cI cB u ++ aw qr cI tr ++ ew qe cI te ++ xw qx cI x ++ dw qd cI cO eA rd ++ mw qm cI mm ++ lo cL ao o) (va_runV (mc := 0) (ms := 0) (As := []) (rest := []) ⟨hx, hb, hml, hown, hts⟩ (mX11_suspect l dC dI cI cB cO cL qs qb qk qr qe qu qx qd s9 bs kk (gC_T hG [1, 0, 7] rfl rfl) kC) (cwV 0 hts gW_X11_suspect rfl rfl rfl (by decide +kernel) ⟨Nat.le_of_ble_eq_true rfl, Nat.le_of_ble_eq_true rfl⟩) ⟨cP_blind, va_recv hK (va_P.app (va_P.app hs9 hb9) hk9) (ci := 8) (q0 := 14) rfl rfl, cP_ok (va_P.app (va_P.app hs9 hb9) hk9) hK hF.1⟩ rfl rfl hl.1 rfl (lv_room (Nat.le_of_ble_eq_true rfl)) dL_law_1615 ⟨hcl0, hsl0⟩) (va_P.app (va_P.app (va_P.app (va_P.app (va_P.app (va_P.app hu9 hr9) he9) hx9) hd9) hm9) ho9) (gC_T hG [1, 0, 7, 2, 3, 4, 5, 6, 8, 9] rfl rfl) (fun q h => Or.inl (mem_wA h)) (fun q h => Or.inl (mem_wA h)) (gC_N hG [1, 0, 7] rfl rfl) hA hS (fun r9 v9 H locs hp hP hO hS => ?_)
  have hp : (r9, v9) = _ := hp
  rw [e1] at hp
  obtain ⟨rfl, rfl⟩ := Prod.mk.inj hp
  have ho9 := va_P_suf hO
  have t139 := va_P_pre hO
  have hm9 := va_P_suf t139
  have t159 := va_P_pre t139
  have hd9 := va_P_suf t159
  have t179 := va_P_pre t159
  have hx9 := va_P_suf t179
  have t199 := va_P_pre t179
  have he9 := va_P_suf t199
  have t219 := va_P_pre t199
  have hr9 := va_P_suf t219
  have t239 := va_P_pre t219
  have hu9 := t239
  have hP : va_P (dC, dI) vwCl (sw qs cI s1 ++ bw qb cI bs ++ kw qk qb qr qe qs qu qx qd cI kk) H := hP
  have hk9 := va_P_suf hP
  have t279 := va_P_pre hP
  have hb9 := va_P_suf t279
  have t299 := va_P_pre t279
  have hs9 := t299
  refine lv_aload_n hx hb dL_law_1618 rfl (lv_at hl 2 rfl) ?_
  refine i_call (Wd := fun m9 => mw qm cI m9) (w0 := mw qm cI mm) (wo := bw qb cI bs ++ sw qs cI s1 ++ uw qu cI cB u ++ aw qr cI tr ++ ew qe cI te ++ xw qx cI x ++ dw qd cI cO eA rd ++ kw qk qb qr qe qs qu qx qd cI kk ++ lo cL ao o) (va_runV (mc := 0) (ms := 0) (As := []) (rest := [.int r9]) ⟨hx, hb, hml, hown, hts⟩ (mX12_suspect l dC dI cI cB cO cL qm mm hIm kM) (cwV 0 hts gW_X12_suspect rfl rfl rfl (by decide +kernel) ⟨Nat.le_of_ble_eq_true rfl, Nat.le_of_ble_eq_true rfl⟩) ⟨gP_blind, va_recv hK hm9 (ci := 9) (q0 := 0) rfl rfl, gP_ok hm9 hK⟩ rfl rfl hl.1 rfl (lv_room (Nat.le_of_ble_eq_true rfl)) dL_law_1619 ⟨hcl0, hsl0⟩) (va_P.app (va_P.app (va_P.app (va_P.app (va_P.app (va_P.app (va_P.app (va_P.app hb9 hs9) hu9) hr9) he9) hx9) hd9) hk9) ho9) (gC_T hG [8, 0, 1, 2, 3, 4, 5, 6, 7, 9] rfl rfl) (fun q h => Or.inl (mem_wA h)) (fun q h => Or.inl (mem_wA h)) (gC_N hG [8] rfl rfl) hA hS (fun r2 m2 H locs hp2 hm9 hO hS => ?_)
  have hp2 : (r2, m2) = pX12_suspect mm := hp2
  have ho9 := va_P_suf hO
  have t359 := va_P_pre hO
  have hk9 := va_P_suf t359
  have t379 := va_P_pre t359
  have hd9 := va_P_suf t379
  have t399 := va_P_pre t379
  have hx9 := va_P_suf t399
  have t419 := va_P_pre t399
  have he9 := va_P_suf t419
  have t439 := va_P_pre t419
  have hr9 := va_P_suf t439
  have t459 := va_P_pre t439
  have hu9 := va_P_suf t459
  have t479 := va_P_pre t459
  have hs9 := va_P_suf t479
  have t499 := va_P_pre t479
  have hb9 := t499
  have e2 : r2 = (pX12_suspect mm).1 := by rw [← hp2]
  have e3 : m2 = (pX12_suspect mm).2 := by rw [← hp2]
  rw [← e3] at hR
  rw [← e2] at h4
  refine lv_icmp_eq (tgt := 1972) hx hb dL_law_1622 (by decide) (fun _ => ?_) (fun h9 => absurd h4 h9)
  exact W.widen (Nat.le_add_right cells 4) (Nat.le_add_right slots 24) (hgo bs s1 u tr te x rd kk m2 o _ _ _ ⟨hb9, hs9, hu9, hr9, he9, hx9, hd9, hk9, hm9, ho9⟩ hR hS hl)
set_option maxHeartbeats 4000000 in
set_option maxRecDepth 100000 in
theorem w_clearCommands (p : Program) (l : Launch) (e : Env) (s : State) (m : MethodId) (below : List Frame) (meth : Method) (c : Code) (b L : Nat) (xs : Nat → Int32) (dC : Nat → ClassId) (dI : Nat → Nat → Nat) (cI cB cO cL : ClassId) (sT eA qb qs qu qr qe qx qd qk qm : Nat → Nat) (ao : Nat) (hLS : LStart p l s m meth c b L xs (dC, dI) cI cB cO cL sT eA qb qs qu qr qe qx qd qk qm ao) (i : Nat) (hi : i + 6 ≤ L) (bs : BS) (s9 : SS) (u : US) (tr te x : TS) (rd : RS) (kk : Int32) (mm : MS) (o : Nat → Int64) (H : Heap) (locs : List Loc) (ls : Array Slot) (cells slots : Nat) (hcl : cells + 4 ≤ 601024) (hsl : slots + 24 ≤ 7293034) (hI : LI (dC, dI) cI cB cO cL eA qb qs qu qr qe qx qd qk qm ao bs s9 u tr te x rd kk mm o H) (hR : SR bs s9 u x kk mm) (hS : va_S (xA s.heap.size) s.heap H locs) (hl : lv_has ls 9 (lvL b ao qm qk i)) (hgo : LGo p l e s m below meth c b (dC, dI) cI cB cO cL eA qb qs qu qr qe qx qd qk qm ao i (cells + 4) (slots + 24)) : W p l e room_1 s m #[Value.ref b] below meth c H locs cells slots (lw_Z below #[Value.ref b] s) (F0 m 1875 ls []) := by
  obtain ⟨hfl, ⟨hx, hb, hr, hml, hown, hts, hlocks⟩, hK, hF, hC, hX, hbl, hL, hG⟩ := hLS
  obtain ⟨hb9, hs9, hu9, hr9, he9, hx9, hd9, hk9, hm9, ho9⟩ := hI
  have hA : ∀ q : Nat, s.heap.size ≤ q → xA s.heap.size q := fun q h => h
  have hIm : gD (fun _ => True) (mAd qm) := gC_T hG [8] rfl rfl
  have hcl0 : cells ≤ 601024 := Nat.le_trans (Nat.le_add_right _ _) hcl
  have hsl0 : slots ≤ 7293034 := Nat.le_trans (Nat.le_add_right _ _) hsl
  obtain ⟨r1, x1, e1, hR, h4⟩ := clear_op hR
  refine lv_aload_n hx hb dL_law_1875 rfl (lv_at hl 3 rfl) ?_
  refine i_call (Wd := fun z9 : TS × Int32 => xw qx cI z9.1 ++ kw qk qb qr qe qs qu qx qd cI z9.2) (w0 := xw qx cI x ++ kw qk qb qr qe qs qu qx qd cI kk) (wo := bw qb cI bs ++ sw qs cI s9 ++ uw qu cI cB u ++ aw qr cI tr ++ ew qe cI te ++ dw qd cI cO eA rd ++ mw qm cI mm ++ lo cL ao o) (va_runV (mc := 0) (ms := 0) (As := []) (rest := []) ⟨hx, hb, hml, hown, hts⟩ (mX11_clearCommands l dC dI cI cB cO cL qx qk qb qr qe qs qu qd x kk (gC_T hG [5, 7] rfl rfl)) (cwV 0 hts gW_X11_clearCommands rfl rfl rfl (by decide +kernel) ⟨Nat.le_of_ble_eq_true rfl, Nat.le_of_ble_eq_true rfl⟩) ⟨cP_blind, va_recv hK (va_P.app hx9 hk9) (ci := 8) (q0 := 2) rfl rfl, cP_ok (va_P.app hx9 hk9) hK hF.1⟩ rfl rfl hl.1 rfl (lv_room (Nat.le_of_ble_eq_true rfl)) dL_law_1876 ⟨hcl0, hsl0⟩) (va_P.app (va_P.app (va_P.app (va_P.app (va_P.app (va_P.app (va_P.app hb9 hs9) hu9) hr9) he9) hd9) hm9) ho9) (gC_T hG [5, 7, 0, 1, 2, 3, 4, 6, 8, 9] rfl rfl) (fun q h => Or.inl (mem_wA h)) (fun q h => Or.inl (mem_wA h)) (gC_N hG [5, 7] rfl rfl) hA hS (fun r9 v9 H locs hp hP hO hS => ?_)
  have hp : (r9, v9) = _ := hp
  rw [e1] at hp
  obtain ⟨rfl, rfl⟩ := Prod.mk.inj hp
  have ho9 := va_P_suf hO
  have t139 := va_P_pre hO
  have hm9 := va_P_suf t139
  have t159 := va_P_pre t139
  have hd9 := va_P_suf t159
  have t179 := va_P_pre t159
  have he9 := va_P_suf t179
  have t199 := va_P_pre t179
  have hr9 := va_P_suf t199
  have t219 := va_P_pre t199
  have hu9 := va_P_suf t219
  have t239 := va_P_pre t219
  have hs9 := va_P_suf t239
  have t259 := va_P_pre t239
  have hb9 := t259
  have hP : va_P (dC, dI) vwCl (xw qx cI x1 ++ kw qk qb qr qe qs qu qx qd cI kk) H := hP
  have hk9 := va_P_suf hP
  have t299 := va_P_pre hP
  have hx9 := t299
  refine lv_aload_n hx hb dL_law_1879 rfl (lv_at hl 2 rfl) ?_
  refine i_call (Wd := fun m9 => mw qm cI m9) (w0 := mw qm cI mm) (wo := bw qb cI bs ++ sw qs cI s9 ++ uw qu cI cB u ++ aw qr cI tr ++ ew qe cI te ++ xw qx cI x1 ++ dw qd cI cO eA rd ++ kw qk qb qr qe qs qu qx qd cI kk ++ lo cL ao o) (va_runV (mc := 0) (ms := 0) (As := []) (rest := [.int r9]) ⟨hx, hb, hml, hown, hts⟩ (mX12_clearCommands l dC dI cI cB cO cL qm mm hIm) (cwV 0 hts gW_X12_clearCommands rfl rfl rfl (by decide +kernel) ⟨Nat.le_of_ble_eq_true rfl, Nat.le_of_ble_eq_true rfl⟩) ⟨gP_blind, va_recv hK hm9 (ci := 9) (q0 := 0) rfl rfl, gP_ok hm9 hK⟩ rfl rfl hl.1 rfl (lv_room (Nat.le_of_ble_eq_true rfl)) dL_law_1880 ⟨hcl0, hsl0⟩) (va_P.app (va_P.app (va_P.app (va_P.app (va_P.app (va_P.app (va_P.app (va_P.app hb9 hs9) hu9) hr9) he9) hx9) hd9) hk9) ho9) (gC_T hG [8, 0, 1, 2, 3, 4, 5, 6, 7, 9] rfl rfl) (fun q h => Or.inl (mem_wA h)) (fun q h => Or.inl (mem_wA h)) (gC_N hG [8] rfl rfl) hA hS (fun r2 m2 H locs hp2 hm9 hO hS => ?_)
  have hp2 : (r2, m2) = pX12_clearCommands mm := hp2
  have ho9 := va_P_suf hO
  have t359 := va_P_pre hO
  have hk9 := va_P_suf t359
  have t379 := va_P_pre t359
  have hd9 := va_P_suf t379
  have t399 := va_P_pre t379
  have hx9 := va_P_suf t399
  have t419 := va_P_pre t399
  have he9 := va_P_suf t419
  have t439 := va_P_pre t419
  have hr9 := va_P_suf t439
  have t459 := va_P_pre t439
  have hu9 := va_P_suf t459
  have t479 := va_P_pre t459
  have hs9 := va_P_suf t479
  have t499 := va_P_pre t479
  have hb9 := t499
  have e2 : r2 = (pX12_clearCommands mm).1 := by rw [← hp2]
  have e3 : m2 = (pX12_clearCommands mm).2 := by rw [← hp2]
  rw [← e3] at hR
  rw [← e2] at h4
  refine lv_icmp_eq (tgt := 1972) hx hb dL_law_1883 (by decide) (fun _ => ?_) (fun h9 => absurd h4 h9)
  exact W.widen (Nat.le_add_right cells 4) (Nat.le_add_right slots 24) (hgo bs s9 u tr te x1 rd kk m2 o _ _ _ ⟨hb9, hs9, hu9, hr9, he9, hx9, hd9, hk9, hm9, ho9⟩ hR hS hl)
set_option maxHeartbeats 4000000 in
set_option maxRecDepth 100000 in
theorem w_runCommands (p : Program) (l : Launch) (e : Env) (s : State) (m : MethodId) (below : List Frame) (meth : Method) (c : Code) (b L : Nat) (xs : Nat → Int32) (dC : Nat → ClassId) (dI : Nat → Nat → Nat) (cI cB cO cL : ClassId) (sT eA qb qs qu qr qe qx qd qk qm : Nat → Nat) (ao : Nat) (hLS : LStart p l s m meth c b L xs (dC, dI) cI cB cO cL sT eA qb qs qu qr qe qx qd qk qm ao) (i : Nat) (hi : i + 6 ≤ L) (bs : BS) (s9 : SS) (u : US) (tr te x : TS) (rd : RS) (kk : Int32) (mm : MS) (o : Nat → Int64) (H : Heap) (locs : List Loc) (ls : Array Slot) (cells slots : Nat) (hcl : cells + 4 ≤ 601024) (hsl : slots + 24 ≤ 7293034) (hI : LI (dC, dI) cI cB cO cL eA qb qs qu qr qe qx qd qk qm ao bs s9 u tr te x rd kk mm o H) (hR : SR bs s9 u x kk mm) (hS : va_S (xA s.heap.size) s.heap H locs) (hl : lv_has ls 9 (lvL b ao qm qk i)) (hgo : LGo p l e s m below meth c b (dC, dI) cI cB cO cL eA qb qs qu qr qe qx qd qk qm ao i (cells + 4) (slots + 24)) : W p l e room_1 s m #[Value.ref b] below meth c H locs cells slots (lw_Z below #[Value.ref b] s) (F0 m 1888 ls []) := by
  obtain ⟨hfl, ⟨hx, hb, hr, hml, hown, hts, hlocks⟩, hK, hF, hC, hX, hbl, hL, hG⟩ := hLS
  obtain ⟨hb9, hs9, hu9, hr9, he9, hx9, hd9, hk9, hm9, ho9⟩ := hI
  have hA : ∀ q : Nat, s.heap.size ≤ q → xA s.heap.size q := fun q h => h
  have hIm : gD (fun _ => True) (mAd qm) := gC_T hG [8] rfl rfl
  have hcl0 : cells ≤ 601024 := Nat.le_trans (Nat.le_add_right _ _) hcl
  have hsl0 : slots ≤ 7293034 := Nat.le_trans (Nat.le_add_right _ _) hsl
  obtain ⟨r1, rd1, te1, b1, s1, u1, kk1, e1, kC, kM, hR, h4⟩ := run_op hR rd te
  refine lv_aload_n hx hb dL_law_1888 rfl (lv_at hl 3 rfl) ?_
  refine i_call (Wd := fun z9 : TS × RS × TS × BS × SS × US × Int32 => xw qx cI z9.1 ++ dw qd cI cO eA z9.2.1 ++ ew qe cI z9.2.2.1 ++ bw qb cI z9.2.2.2.1 ++ sw qs cI z9.2.2.2.2.1 ++ uw qu cI cB z9.2.2.2.2.2.1 ++ kw qk qb qr qe qs qu qx qd cI z9.2.2.2.2.2.2) (w0 := xw qx cI x ++ dw qd cI cO eA rd ++ ew qe cI te ++ bw qb cI bs ++ sw qs cI s9 ++ uw qu cI cB u ++ kw qk qb qr qe qs qu qx qd cI kk) (wo := aw qr cI tr ++ mw qm cI mm ++ lo cL ao o) (va_runV (mc := 0) (ms := 0) (As := []) (rest := []) ⟨hx, hb, hml, hown, hts⟩ (mX11_runCommands l dC dI cI cB cO cL s.heap.size sT eA qx qd qe qb qs qu qk qr x rd te bs s9 u kk (gC_T hG [5, 6, 4, 0, 1, 2, 7] rfl rfl) (gC_N hG [5, 6, 4, 0, 1, 2, 7] rfl rfl) kC) (cwV 0 hts gW_X11_runCommands rfl rfl rfl (by decide +kernel) ⟨Nat.le_of_ble_eq_true rfl, Nat.le_of_ble_eq_true rfl⟩) ⟨fP_blind, va_recv hK (va_P.app (va_P.app (va_P.app (va_P.app (va_P.app (va_P.app hx9 hd9) he9) hb9) hs9) hu9) hk9) (ci := 8) (q0 := 61) rfl rfl, fP_ok (A := xA s.heap.size) (va_P.app (va_P.app (va_P.app (va_P.app (va_P.app (va_P.app hx9 hd9) he9) hb9) hs9) hu9) hk9) hK hF hS (fun q h => h)⟩ rfl rfl hl.1 rfl (lv_room (Nat.le_of_ble_eq_true rfl)) dL_law_1889 ⟨hcl0, hsl0⟩) (va_P.app (va_P.app hr9 hm9) ho9) (gC_T hG [5, 6, 4, 0, 1, 2, 7, 3, 8, 9] rfl rfl) (fun q h => Or.inl (mem_wA h)) (fun q h => Or.inl (mem_wA h)) (gC_N hG [5, 6, 4, 0, 1, 2, 7] rfl rfl) hA hS (fun r9 v9 H locs hp hP hO hS => ?_)
  have hp : (r9, v9) = _ := hp
  rw [e1] at hp
  obtain ⟨rfl, rfl⟩ := Prod.mk.inj hp
  have ho9 := va_P_suf hO
  have t139 := va_P_pre hO
  have hm9 := va_P_suf t139
  have t159 := va_P_pre t139
  have hr9 := t159
  have hP : va_P (dC, dI) vwCl (xw qx cI x ++ dw qd cI cO eA rd1 ++ ew qe cI te1 ++ bw qb cI b1 ++ sw qs cI s1 ++ uw qu cI cB u1 ++ kw qk qb qr qe qs qu qx qd cI kk1) H := hP
  have hk9 := va_P_suf hP
  have t199 := va_P_pre hP
  have hu9 := va_P_suf t199
  have t219 := va_P_pre t199
  have hs9 := va_P_suf t219
  have t239 := va_P_pre t219
  have hb9 := va_P_suf t239
  have t259 := va_P_pre t239
  have he9 := va_P_suf t259
  have t279 := va_P_pre t259
  have hd9 := va_P_suf t279
  have t299 := va_P_pre t279
  have hx9 := t299
  refine lv_aload_n hx hb dL_law_1892 rfl (lv_at hl 2 rfl) ?_
  refine i_call (Wd := fun m9 => mw qm cI m9) (w0 := mw qm cI mm) (wo := bw qb cI b1 ++ sw qs cI s1 ++ uw qu cI cB u1 ++ aw qr cI tr ++ ew qe cI te1 ++ xw qx cI x ++ dw qd cI cO eA rd1 ++ kw qk qb qr qe qs qu qx qd cI kk1 ++ lo cL ao o) (va_runV (mc := 0) (ms := 0) (As := []) (rest := [.int r9]) ⟨hx, hb, hml, hown, hts⟩ (mX12_runCommands l dC dI cI cB cO cL qm mm hIm kM) (cwV 0 hts gW_X12_runCommands rfl rfl rfl (by decide +kernel) ⟨Nat.le_of_ble_eq_true rfl, Nat.le_of_ble_eq_true rfl⟩) ⟨gP_blind, va_recv hK hm9 (ci := 9) (q0 := 0) rfl rfl, gP_ok hm9 hK⟩ rfl rfl hl.1 rfl (lv_room (Nat.le_of_ble_eq_true rfl)) dL_law_1893 ⟨hcl0, hsl0⟩) (va_P.app (va_P.app (va_P.app (va_P.app (va_P.app (va_P.app (va_P.app (va_P.app hb9 hs9) hu9) hr9) he9) hx9) hd9) hk9) ho9) (gC_T hG [8, 0, 1, 2, 3, 4, 5, 6, 7, 9] rfl rfl) (fun q h => Or.inl (mem_wA h)) (fun q h => Or.inl (mem_wA h)) (gC_N hG [8] rfl rfl) hA hS (fun r2 m2 H locs hp2 hm9 hO hS => ?_)
  have hp2 : (r2, m2) = pX12_runCommands mm := hp2
  have ho9 := va_P_suf hO
  have t359 := va_P_pre hO
  have hk9 := va_P_suf t359
  have t379 := va_P_pre t359
  have hd9 := va_P_suf t379
  have t399 := va_P_pre t379
  have hx9 := va_P_suf t399
  have t419 := va_P_pre t399
  have he9 := va_P_suf t419
  have t439 := va_P_pre t419
  have hr9 := va_P_suf t439
  have t459 := va_P_pre t439
  have hu9 := va_P_suf t459
  have t479 := va_P_pre t459
  have hs9 := va_P_suf t479
  have t499 := va_P_pre t479
  have hb9 := t499
  have e2 : r2 = (pX12_runCommands mm).1 := by rw [← hp2]
  have e3 : m2 = (pX12_runCommands mm).2 := by rw [← hp2]
  rw [← e3] at hR
  rw [← e2] at h4
  refine lv_icmp_eq (tgt := 1972) hx hb dL_law_1896 (by decide) (fun _ => ?_) (fun h9 => absurd h4 h9)
  exact W.widen (Nat.le_add_right cells 4) (Nat.le_add_right slots 24) (hgo b1 s1 u1 tr te1 x rd1 kk1 m2 o _ _ _ ⟨hb9, hs9, hu9, hr9, he9, hx9, hd9, hk9, hm9, ho9⟩ hR hS hl)
set_option maxHeartbeats 4000000 in
set_option maxRecDepth 100000 in
theorem w_stop (p : Program) (l : Launch) (e : Env) (s : State) (m : MethodId) (below : List Frame) (meth : Method) (c : Code) (b L : Nat) (xs : Nat → Int32) (dC : Nat → ClassId) (dI : Nat → Nat → Nat) (cI cB cO cL : ClassId) (sT eA qb qs qu qr qe qx qd qk qm : Nat → Nat) (ao : Nat) (hLS : LStart p l s m meth c b L xs (dC, dI) cI cB cO cL sT eA qb qs qu qr qe qx qd qk qm ao) (i : Nat) (hi : i + 6 ≤ L) (bs : BS) (s9 : SS) (u : US) (tr te x : TS) (rd : RS) (kk : Int32) (mm : MS) (o : Nat → Int64) (H : Heap) (locs : List Loc) (ls : Array Slot) (cells slots : Nat) (hcl : cells + 4 ≤ 601024) (hsl : slots + 24 ≤ 7293034) (hI : LI (dC, dI) cI cB cO cL eA qb qs qu qr qe qx qd qk qm ao bs s9 u tr te x rd kk mm o H) (hR : SR bs s9 u x kk mm) (hS : va_S (xA s.heap.size) s.heap H locs) (hl : lv_has ls 9 (lvL b ao qm qk i)) (hgo : LGo p l e s m below meth c b (dC, dI) cI cB cO cL eA qb qs qu qr qe qx qd qk qm ao i (cells + 4) (slots + 24)) : W p l e room_1 s m #[Value.ref b] below meth c H locs cells slots (lw_Z below #[Value.ref b] s) (F0 m 1901 ls []) := by
  obtain ⟨hfl, ⟨hx, hb, hr, hml, hown, hts, hlocks⟩, hK, hF, hC, hX, hbl, hL, hG⟩ := hLS
  obtain ⟨hb9, hs9, hu9, hr9, he9, hx9, hd9, hk9, hm9, ho9⟩ := hI
  have hA : ∀ q : Nat, s.heap.size ≤ q → xA s.heap.size q := fun q h => h
  have hIm : gD (fun _ => True) (mAd qm) := gC_T hG [8] rfl rfl
  have hcl0 : cells ≤ 601024 := Nat.le_trans (Nat.le_add_right _ _) hcl
  have hsl0 : slots ≤ 7293034 := Nat.le_trans (Nat.le_add_right _ _) hsl
  obtain ⟨hR, h4⟩ := stop_op hR
  refine lv_aload_n hx hb dL_law_1901 rfl (lv_at hl 3 rfl) ?_
  refine gro_i (va_runV (mc := 0) (ms := 0) (As := []) (rest := []) ⟨hx, hb, hml, hown, hts⟩ (mX11_stop l dC dI cI cB cO cL qk qb qr qe qs qu qx qd kk) (cwV 0 hts gW_X11_stop rfl rfl rfl (by decide +kernel) ⟨Nat.le_of_ble_eq_true rfl, Nat.le_of_ble_eq_true rfl⟩) ⟨cP_blind, va_recv hK hk9 (ci := 8) (q0 := 0) rfl rfl, cP_ok hk9 hK hF.1⟩ rfl rfl hl.1 rfl (lv_room (Nat.le_of_ble_eq_true rfl)) dL_law_1902 ⟨hcl0, hsl0⟩) ?_
  refine lv_aload_n hx hb dL_law_1905 rfl (lv_at hl 2 rfl) ?_
  refine i_call (Wd := fun m9 => mw qm cI m9) (w0 := mw qm cI mm) (wo := bw qb cI bs ++ sw qs cI s9 ++ uw qu cI cB u ++ aw qr cI tr ++ ew qe cI te ++ xw qx cI x ++ dw qd cI cO eA rd ++ kw qk qb qr qe qs qu qx qd cI kk ++ lo cL ao o) (va_runV (mc := 0) (ms := 0) (As := []) (rest := [.int (pX11_stop kk)]) ⟨hx, hb, hml, hown, hts⟩ (mX12_stop l dC dI cI cB cO cL qm mm hIm) (cwV 0 hts gW_X12_stop rfl rfl rfl (by decide +kernel) ⟨Nat.le_of_ble_eq_true rfl, Nat.le_of_ble_eq_true rfl⟩) ⟨gP_blind, va_recv hK hm9 (ci := 9) (q0 := 0) rfl rfl, gP_ok hm9 hK⟩ rfl rfl hl.1 rfl (lv_room (Nat.le_of_ble_eq_true rfl)) dL_law_1906 ⟨hcl0, hsl0⟩) (va_P.app (va_P.app (va_P.app (va_P.app (va_P.app (va_P.app (va_P.app (va_P.app hb9 hs9) hu9) hr9) he9) hx9) hd9) hk9) ho9) (gC_T hG [8, 0, 1, 2, 3, 4, 5, 6, 7, 9] rfl rfl) (fun q h => Or.inl (mem_wA h)) (fun q h => Or.inl (mem_wA h)) (gC_N hG [8] rfl rfl) hA hS (fun r2 m2 H locs hp2 hm9 hO hS => ?_)
  have hp2 : (r2, m2) = pX12_stop mm := hp2
  have ho9 := va_P_suf hO
  have t139 := va_P_pre hO
  have hk9 := va_P_suf t139
  have t159 := va_P_pre t139
  have hd9 := va_P_suf t159
  have t179 := va_P_pre t159
  have hx9 := va_P_suf t179
  have t199 := va_P_pre t179
  have he9 := va_P_suf t199
  have t219 := va_P_pre t199
  have hr9 := va_P_suf t219
  have t239 := va_P_pre t219
  have hu9 := va_P_suf t239
  have t259 := va_P_pre t239
  have hs9 := va_P_suf t259
  have t279 := va_P_pre t259
  have hb9 := t279
  have e2 : r2 = (pX12_stop mm).1 := by rw [← hp2]
  have e3 : m2 = (pX12_stop mm).2 := by rw [← hp2]
  rw [← e3] at hR
  rw [← e2] at h4
  refine lv_icmp_eq (tgt := 1972) hx hb dL_law_1909 (by decide) (fun _ => ?_) (fun h9 => absurd h4 h9)
  exact W.widen (Nat.le_add_right cells 4) (Nat.le_add_right slots 24) (hgo bs s9 u tr te x rd kk m2 o _ _ _ ⟨hb9, hs9, hu9, hr9, he9, hx9, hd9, hk9, hm9, ho9⟩ hR hS hl)
set_option maxHeartbeats 4000000 in
set_option maxRecDepth 100000 in
theorem w_digest (p : Program) (l : Launch) (e : Env) (s : State) (m : MethodId) (below : List Frame) (meth : Method) (c : Code) (b L : Nat) (xs : Nat → Int32) (dC : Nat → ClassId) (dI : Nat → Nat → Nat) (cI cB cO cL : ClassId) (sT eA qb qs qu qr qe qx qd qk qm : Nat → Nat) (ao : Nat) (hLS : LStart p l s m meth c b L xs (dC, dI) cI cB cO cL sT eA qb qs qu qr qe qx qd qk qm ao) (i : Nat) (hi : i + 6 ≤ L) (bs : BS) (s9 : SS) (u : US) (tr te x : TS) (rd : RS) (kk : Int32) (mm : MS) (o : Nat → Int64) (H : Heap) (locs : List Loc) (ls : Array Slot) (cells slots : Nat) (hcl : cells + 4 ≤ 601024) (hsl : slots + 24 ≤ 7293034) (hI : LI (dC, dI) cI cB cO cL eA qb qs qu qr qe qx qd qk qm ao bs s9 u tr te x rd kk mm o H) (hR : SR bs s9 u x kk mm) (hS : va_S (xA s.heap.size) s.heap H locs) (hl : lv_has ls 9 (lvL b ao qm qk i)) (hgo : LGo p l e s m below meth c b (dC, dI) cI cB cO cL eA qb qs qu qr qe qx qd qk qm ao i (cells + 4) (slots + 24)) : W p l e room_1 s m #[Value.ref b] below meth c H locs cells slots (lw_Z below #[Value.ref b] s) (F0 m 1958 ls []) := by
  obtain ⟨hfl, ⟨hx, hb, hr, hml, hown, hts, hlocks⟩, hK, hF, hC, hX, hbl, hL, hG⟩ := hLS
  obtain ⟨hb9, hs9, hu9, hr9, he9, hx9, hd9, hk9, hm9, ho9⟩ := hI
  have hA : ∀ q : Nat, s.heap.size ≤ q → xA s.heap.size q := fun q h => h
  have hIm : gD (fun _ => True) (mAd qm) := gC_T hG [8] rfl rfl
  have hcl0 : cells ≤ 601024 := Nat.le_trans (Nat.le_add_right _ _) hcl
  have hsl0 : slots ≤ 7293034 := Nat.le_trans (Nat.le_add_right _ _) hsl
  obtain ⟨r1, s1, e1, kC, kM, hR, h4⟩ := digest_op hR
  refine lv_aload_n hx hb dL_law_1958 rfl (lv_at hl 3 rfl) ?_
  refine l_calll (Wd := fun z9 : SS × US × BS × TS × Int32 => sw qs cI z9.1 ++ uw qu cI cB z9.2.1 ++ bw qb cI z9.2.2.1 ++ xw qx cI z9.2.2.2.1 ++ kw qk qb qr qe qs qu qx qd cI z9.2.2.2.2) (w0 := sw qs cI s9 ++ uw qu cI cB u ++ bw qb cI bs ++ xw qx cI x ++ kw qk qb qr qe qs qu qx qd cI kk) (wo := aw qr cI tr ++ ew qe cI te ++ dw qd cI cO eA rd ++ mw qm cI mm ++ lo cL ao o) (va_runV (mc := 0) (ms := 0) (As := []) (rest := []) ⟨hx, hb, hml, hown, hts⟩ (mX11_digest l dC dI cI cB cO cL qs qu qb qx qk qr qe qd s9 u bs x kk (gC_T hG [1, 2, 0, 5, 7] rfl rfl) kC) (cwV 0 hts gW_X11_digest rfl rfl rfl (by decide +kernel) ⟨Nat.le_of_ble_eq_true rfl, Nat.le_of_ble_eq_true rfl⟩) ⟨cP_blind, va_recv hK (va_P.app (va_P.app (va_P.app (va_P.app hs9 hu9) hb9) hx9) hk9) (ci := 8) (q0 := 54) rfl rfl, cP_ok (va_P.app (va_P.app (va_P.app (va_P.app hs9 hu9) hb9) hx9) hk9) hK hF.1⟩ rfl rfl hl.1 rfl (lv_room (Nat.le_of_ble_eq_true rfl)) dL_law_1959 ⟨hcl0, hsl0⟩) (va_P.app (va_P.app (va_P.app (va_P.app hr9 he9) hd9) hm9) ho9) (gC_T hG [1, 2, 0, 5, 7, 3, 4, 6, 8, 9] rfl rfl) (fun q h => Or.inl (mem_wA h)) (fun q h => Or.inl (mem_wA h)) (gC_N hG [1, 2, 0, 5, 7] rfl rfl) hA hS (fun r9 v9 H locs hp hP hO hS => ?_)
  have hp : (r9, v9) = _ := hp
  rw [e1] at hp
  obtain ⟨rfl, rfl⟩ := Prod.mk.inj hp
  have ho9 := va_P_suf hO
  have t139 := va_P_pre hO
  have hm9 := va_P_suf t139
  have t159 := va_P_pre t139
  have hd9 := va_P_suf t159
  have t179 := va_P_pre t159
  have he9 := va_P_suf t179
  have t199 := va_P_pre t179
  have hr9 := t199
  have hP : va_P (dC, dI) vwCl (sw qs cI s1 ++ uw qu cI cB u ++ bw qb cI bs ++ xw qx cI x ++ kw qk qb qr qe qs qu qx qd cI kk) H := hP
  have hk9 := va_P_suf hP
  have t239 := va_P_pre hP
  have hx9 := va_P_suf t239
  have t259 := va_P_pre t239
  have hb9 := va_P_suf t259
  have t279 := va_P_pre t259
  have hu9 := va_P_suf t279
  have t299 := va_P_pre t279
  have hs9 := t299
  refine lv_aload_n hx hb dL_law_1962 rfl (lv_at hl 2 rfl) ?_
  refine l_calll (Wd := fun m9 => mw qm cI m9) (w0 := mw qm cI mm) (wo := bw qb cI bs ++ sw qs cI s1 ++ uw qu cI cB u ++ aw qr cI tr ++ ew qe cI te ++ xw qx cI x ++ dw qd cI cO eA rd ++ kw qk qb qr qe qs qu qx qd cI kk ++ lo cL ao o) (va_runV (mc := 0) (ms := 0) (As := []) (rest := [.long r9]) ⟨hx, hb, hml, hown, hts⟩ (mX12_digest l dC dI cI cB cO cL qm mm hIm kM) (cwV 0 hts gW_X12_digest rfl rfl rfl (by decide +kernel) ⟨Nat.le_of_ble_eq_true rfl, Nat.le_of_ble_eq_true rfl⟩) ⟨gP_blind, va_recv hK hm9 (ci := 9) (q0 := 0) rfl rfl, gP_ok hm9 hK⟩ rfl rfl hl.1 rfl (lv_room (Nat.le_of_ble_eq_true rfl)) dL_law_1963 ⟨hcl0, hsl0⟩) (va_P.app (va_P.app (va_P.app (va_P.app (va_P.app (va_P.app (va_P.app (va_P.app hb9 hs9) hu9) hr9) he9) hx9) hd9) hk9) ho9) (gC_T hG [8, 0, 1, 2, 3, 4, 5, 6, 7, 9] rfl rfl) (fun q h => Or.inl (mem_wA h)) (fun q h => Or.inl (mem_wA h)) (gC_N hG [8] rfl rfl) hA hS (fun r2 m2 H locs hp2 hm9 hO hS => ?_)
  have hp2 : (r2, m2) = pX12_digest mm := hp2
  have ho9 := va_P_suf hO
  have t359 := va_P_pre hO
  have hk9 := va_P_suf t359
  have t379 := va_P_pre t359
  have hd9 := va_P_suf t379
  have t399 := va_P_pre t379
  have hx9 := va_P_suf t399
  have t419 := va_P_pre t399
  have he9 := va_P_suf t419
  have t439 := va_P_pre t419
  have hr9 := va_P_suf t439
  have t459 := va_P_pre t439
  have hu9 := va_P_suf t459
  have t479 := va_P_pre t459
  have hs9 := va_P_suf t479
  have t499 := va_P_pre t479
  have hb9 := t499
  have e2 : r2 = (pX12_digest mm).1 := by rw [← hp2]
  have e3 : m2 = (pX12_digest mm).2 := by rw [← hp2]
  rw [← e3] at hR
  rw [← e2] at h4
  refine W.lcmp hx hb dL_law_1966 ?_
  refine lv_if_eq (tgt := 1972) hx hb dL_law_1967 (by decide) (fun _ => ?_) (fun h9 => absurd ((lg_cmp_eq _ _).mpr h4) h9)
  exact W.widen (Nat.le_add_right cells 4) (Nat.le_add_right slots 24) (hgo bs s1 u tr te x rd kk m2 o _ _ _ ⟨hb9, hs9, hu9, hr9, he9, hx9, hd9, hk9, hm9, ho9⟩ hR hS hl)
set_option maxHeartbeats 4000000 in
set_option maxRecDepth 100000 in
theorem w_middle (p : Program) (l : Launch) (e : Env) (s : State) (m : MethodId) (below : List Frame) (meth : Method) (c : Code) (b L : Nat) (xs : Nat → Int32) (dC : Nat → ClassId) (dI : Nat → Nat → Nat) (cI cB cO cL : ClassId) (sT eA qb qs qu qr qe qx qd qk qm : Nat → Nat) (ao : Nat) (hLS : LStart p l s m meth c b L xs (dC, dI) cI cB cO cL sT eA qb qs qu qr qe qx qd qk qm ao) (i : Nat) (hi : i + 6 ≤ L) (bs : BS) (s9 : SS) (u : US) (tr te x : TS) (rd : RS) (kk : Int32) (mm : MS) (o : Nat → Int64) (H : Heap) (locs : List Loc) (ls : Array Slot) (cells slots : Nat) (hcl : cells + 4 ≤ 601024) (hsl : slots + 24 ≤ 7293034) (hI : LI (dC, dI) cI cB cO cL eA qb qs qu qr qe qx qd qk qm ao bs s9 u tr te x rd kk mm o H) (hR : SR bs s9 u x kk mm) (hS : va_S (xA s.heap.size) s.heap H locs) (hl : lv_has ls 9 (lvL b ao qm qk i)) (hgo : LGo p l e s m below meth c b (dC, dI) cI cB cO cL eA qb qs qu qr qe qx qd qk qm ao i (cells + 4) (slots + 24)) : W p l e room_1 s m #[Value.ref b] below meth c H locs cells slots (lw_Z below #[Value.ref b] s) (F0 m 1489 ls []) := by
  obtain ⟨hfl, ⟨hx, hb, hr, hml, hown, hts, hlocks⟩, hK, hF, hC, hX, hbl, hL, hG⟩ := hLS
  obtain ⟨hb9, hs9, hu9, hr9, he9, hx9, hd9, hk9, hm9, ho9⟩ := hI
  have hA : ∀ q : Nat, s.heap.size ≤ q → xA s.heap.size q := fun q h => h
  have hIm : gD (fun _ => True) (mAd qm) := gC_T hG [8] rfl rfl
  have hcl0 : cells ≤ 601024 := Nat.le_trans (Nat.le_add_right _ _) hcl
  have hsl0 : slots ≤ 7293034 := Nat.le_trans (Nat.le_add_right _ _) hsl
  refine lv_aload_n hx hb dL_law_1489 rfl (lv_at hl 3 rfl) ?_
  refine lv_aload_n hx hb dL_law_1490 rfl (lv_at hl 4 rfl) ?_
  refine lv_iload hx hb dL_law_1491 (lv_at hl 0 rfl) ?_
  refine lv_iconst (v := 1) hx hb dL_law_1493 (by decide) ?_
  refine lv_iadd hx hb dL_law_1494 ?_
  refine va_sld hx hb hX hbl (Nat.not_le.mpr hbl) hS (w_in (k := 1) hi hL (by omega)) dL_law_1495 ?_
  refine lv_if_eq (tgt := 1503) hx hb dL_law_1496 (by decide) (fun hz => ?_) (fun hz => ?_)
  · obtain ⟨r1, s1, e1, kC, kM, hR, h4⟩ := middle_op hR false
    refine lv_iconst (v := 0) hx hb dL_law_1503 (by decide) ?_
    refine l_calld (Wd := fun z9 : SS × BS × Int32 => sw qs cI z9.1 ++ bw qb cI z9.2.1 ++ kw qk qb qr qe qs qu qx qd cI z9.2.2) (w0 := sw qs cI s9 ++ bw qb cI bs ++ kw qk qb qr qe qs qu qx qd cI kk) (wo := uw qu cI cB u ++ aw qr cI tr ++ ew qe cI te ++ xw qx cI x ++ dw qd cI cO eA rd ++ mw qm cI mm ++ lo cL ao o) (va_runV (mc := 0) (ms := 0) (As := [.int (bz false)]) (rest := []) ⟨hx, hb, hml, hown, hts⟩ (mX11_middle l dC dI cI cB cO cL qs qb qk qr qe qu qx qd s9 bs kk false (gC_T hG [1, 0, 7] rfl rfl) kC) (cwV 1 hts gW_X11_middle rfl rfl rfl (by decide +kernel) ⟨Nat.le_of_ble_eq_true rfl, Nat.le_of_ble_eq_true rfl⟩) ⟨cP_blind, va_recv hK (va_P.app (va_P.app hs9 hb9) hk9) (ci := 8) (q0 := 14) rfl rfl, cP_ok (va_P.app (va_P.app hs9 hb9) hk9) hK hF.1⟩ rfl rfl hl.1 rfl (lv_room (Nat.le_of_ble_eq_true rfl)) dL_law_1504 ⟨hcl0, hsl0⟩) (va_P.app (va_P.app (va_P.app (va_P.app (va_P.app (va_P.app hu9 hr9) he9) hx9) hd9) hm9) ho9) (gC_T hG [1, 0, 7, 2, 3, 4, 5, 6, 8, 9] rfl rfl) (fun q h => Or.inl (mem_wA h)) (fun q h => Or.inl (mem_wA h)) (gC_N hG [1, 0, 7] rfl rfl) hA hS (fun r9 v9 H locs hp hP hO hS => ?_)
    have hp : (r9, v9) = _ := hp
    rw [e1] at hp
    obtain ⟨rfl, rfl⟩ := Prod.mk.inj hp
    have ho9 := va_P_suf hO
    have t79 := va_P_pre hO
    have hm9 := va_P_suf t79
    have t99 := va_P_pre t79
    have hd9 := va_P_suf t99
    have t119 := va_P_pre t99
    have hx9 := va_P_suf t119
    have t139 := va_P_pre t119
    have he9 := va_P_suf t139
    have t159 := va_P_pre t139
    have hr9 := va_P_suf t159
    have t179 := va_P_pre t159
    have hu9 := t179
    have hP : va_P (dC, dI) vwCl (sw qs cI s1 ++ bw qb cI bs ++ kw qk qb qr qe qs qu qx qd cI kk) H := hP
    have hk9 := va_P_suf hP
    have t219 := va_P_pre hP
    have hb9 := va_P_suf t219
    have t239 := va_P_pre t219
    have hs9 := t239
    refine lv_dstore (lv' := [(5, .double r9), (4, .int (nI i)), (3, .ref ao), (2, .ref (qm 0)), (1, .ref (qk 0)), (0, .ref b)]) hx hb dL_law_1507 hl (by decide) rfl (fun ls hl => ?_)
    refine lv_aload_n hx hb dL_law_1509 rfl (lv_at hl 3 rfl) ?_
    refine lv_aload_n hx hb dL_law_1510 rfl (lv_at hl 5 rfl) ?_
    refine lv_iload hx hb dL_law_1511 (lv_at hl 1 rfl) ?_
    refine lv_iconst (v := 1) hx hb dL_law_1513 (by decide) ?_
    refine lv_iadd hx hb dL_law_1514 ?_
    refine va_sld hx hb hX hbl (Nat.not_le.mpr hbl) hS (w_in (k := 1) hi hL (by omega)) dL_law_1515 ?_
    refine lv_if_eq (tgt := 1523) hx hb dL_law_1516 (by decide) (fun _ => ?_) (fun h9 => absurd hz h9)
    refine lv_iconst (v := 0) hx hb dL_law_1523 (by decide) ?_
    refine l_calld (Wd := fun m9 => mw qm cI m9) (w0 := mw qm cI mm) (wo := bw qb cI bs ++ sw qs cI s1 ++ uw qu cI cB u ++ aw qr cI tr ++ ew qe cI te ++ xw qx cI x ++ dw qd cI cO eA rd ++ kw qk qb qr qe qs qu qx qd cI kk ++ lo cL ao o) (va_runV (mc := 0) (ms := 0) (As := [.int (bz false)]) (rest := []) ⟨hx, hb, hml, hown, hts⟩ (mX12_middle l dC dI cI cB cO cL qm mm false hIm kM) (cwV 1 hts gW_X12_middle rfl rfl rfl (by decide +kernel) ⟨Nat.le_of_ble_eq_true rfl, Nat.le_of_ble_eq_true rfl⟩) ⟨gP_blind, va_recv hK hm9 (ci := 9) (q0 := 0) rfl rfl, gP_ok hm9 hK⟩ rfl rfl hl.1 rfl (lv_room (Nat.le_of_ble_eq_true rfl)) dL_law_1524 ⟨hcl0, hsl0⟩) (va_P.app (va_P.app (va_P.app (va_P.app (va_P.app (va_P.app (va_P.app (va_P.app hb9 hs9) hu9) hr9) he9) hx9) hd9) hk9) ho9) (gC_T hG [8, 0, 1, 2, 3, 4, 5, 6, 7, 9] rfl rfl) (fun q h => Or.inl (mem_wA h)) (fun q h => Or.inl (mem_wA h)) (gC_N hG [8] rfl rfl) hA hS (fun r2 m2 H locs hp2 hm9 hO hS => ?_)
    have hp2 : (r2, m2) = pX12_middle mm false := hp2
    have ho9 := va_P_suf hO
    have t379 := va_P_pre hO
    have hk9 := va_P_suf t379
    have t399 := va_P_pre t379
    have hd9 := va_P_suf t399
    have t419 := va_P_pre t399
    have hx9 := va_P_suf t419
    have t439 := va_P_pre t419
    have he9 := va_P_suf t439
    have t459 := va_P_pre t439
    have hr9 := va_P_suf t459
    have t479 := va_P_pre t459
    have hu9 := va_P_suf t479
    have t499 := va_P_pre t479
    have hs9 := va_P_suf t499
    have t519 := va_P_pre t499
    have hb9 := t519
    have e2 : r2 = (pX12_middle mm false).1 := by rw [← hp2]
    have e3 : m2 = (pX12_middle mm false).2 := by rw [← hp2]
    rw [← e3] at hR
    rw [← e2] at h4
    subst h4
    refine lv_dstore (lv' := [(7, .double r9), (5, .double r9), (4, .int (nI i)), (3, .ref ao), (2, .ref (qm 0)), (1, .ref (qk 0)), (0, .ref b)]) hx hb dL_law_1527 hl (by decide) rfl (fun ls hl => ?_)
    refine lv_dload hx hb dL_law_1529 (lv_at hl 1 rfl) ?_
    refine lv_dload hx hb dL_law_1531 (lv_at hl 0 rfl) ?_
    refine lv_dcmp hx hb dL_law_1533 ?_
    refine lv_if_eq (tgt := 1555) hx hb dL_law_1534 (by decide) (fun _ => ?_) (fun h9 => ?_)
    · refine lv_goto (tgt := 1972) hx hb dL_law_1555 (by decide) ?_
      exact W.widen (Nat.le_add_right cells 4) (Nat.le_add_right slots 24) (hgo bs s1 u tr te x rd kk m2 o _ _ _ ⟨hb9, hs9, hu9, hr9, he9, hx9, hd9, hk9, hm9, ho9⟩ hR hS (lv_sub hl [2, 3, 4, 5, 6] rfl))
    · refine lv_dload hx hb dL_law_1537 (lv_at hl 1 rfl) ?_
      refine lv_dload hx hb dL_law_1539 (lv_at hl 1 rfl) ?_
      refine lv_dcmp hx hb dL_law_1541 ?_
      refine lv_if_eq (tgt := 1553) hx hb dL_law_1542 (by decide) (fun h8 => absurd h8 h9) (fun _ => ?_)
      refine lv_dload hx hb dL_law_1545 (lv_at hl 0 rfl) ?_
      refine lv_dload hx hb dL_law_1547 (lv_at hl 0 rfl) ?_
      refine lv_dcmp hx hb dL_law_1549 ?_
      refine lv_if_ne (tgt := 1555) hx hb dL_law_1550 (by decide) (fun _ => ?_) (fun h8 => absurd h8 h9)
      refine lv_goto (tgt := 1972) hx hb dL_law_1555 (by decide) ?_
      exact W.widen (Nat.le_add_right cells 4) (Nat.le_add_right slots 24) (hgo bs s1 u tr te x rd kk m2 o _ _ _ ⟨hb9, hs9, hu9, hr9, he9, hx9, hd9, hk9, hm9, ho9⟩ hR hS (lv_sub hl [2, 3, 4, 5, 6] rfl))
  · obtain ⟨r1, s1, e1, kC, kM, hR, h4⟩ := middle_op hR true
    refine lv_iconst (v := 1) hx hb dL_law_1499 (by decide) ?_
    refine lv_goto (tgt := 1504) hx hb dL_law_1500 (by decide) ?_
    refine l_calld (Wd := fun z9 : SS × BS × Int32 => sw qs cI z9.1 ++ bw qb cI z9.2.1 ++ kw qk qb qr qe qs qu qx qd cI z9.2.2) (w0 := sw qs cI s9 ++ bw qb cI bs ++ kw qk qb qr qe qs qu qx qd cI kk) (wo := uw qu cI cB u ++ aw qr cI tr ++ ew qe cI te ++ xw qx cI x ++ dw qd cI cO eA rd ++ mw qm cI mm ++ lo cL ao o) (va_runV (mc := 0) (ms := 0) (As := [.int (bz true)]) (rest := []) ⟨hx, hb, hml, hown, hts⟩ (mX11_middle l dC dI cI cB cO cL qs qb qk qr qe qu qx qd s9 bs kk true (gC_T hG [1, 0, 7] rfl rfl) kC) (cwV 1 hts gW_X11_middle rfl rfl rfl (by decide +kernel) ⟨Nat.le_of_ble_eq_true rfl, Nat.le_of_ble_eq_true rfl⟩) ⟨cP_blind, va_recv hK (va_P.app (va_P.app hs9 hb9) hk9) (ci := 8) (q0 := 14) rfl rfl, cP_ok (va_P.app (va_P.app hs9 hb9) hk9) hK hF.1⟩ rfl rfl hl.1 rfl (lv_room (Nat.le_of_ble_eq_true rfl)) dL_law_1504 ⟨hcl0, hsl0⟩) (va_P.app (va_P.app (va_P.app (va_P.app (va_P.app (va_P.app hu9 hr9) he9) hx9) hd9) hm9) ho9) (gC_T hG [1, 0, 7, 2, 3, 4, 5, 6, 8, 9] rfl rfl) (fun q h => Or.inl (mem_wA h)) (fun q h => Or.inl (mem_wA h)) (gC_N hG [1, 0, 7] rfl rfl) hA hS (fun r9 v9 H locs hp hP hO hS => ?_)
    have hp : (r9, v9) = _ := hp
    rw [e1] at hp
    obtain ⟨rfl, rfl⟩ := Prod.mk.inj hp
    have ho9 := va_P_suf hO
    have t89 := va_P_pre hO
    have hm9 := va_P_suf t89
    have t109 := va_P_pre t89
    have hd9 := va_P_suf t109
    have t129 := va_P_pre t109
    have hx9 := va_P_suf t129
    have t149 := va_P_pre t129
    have he9 := va_P_suf t149
    have t169 := va_P_pre t149
    have hr9 := va_P_suf t169
    have t189 := va_P_pre t169
    have hu9 := t189
    have hP : va_P (dC, dI) vwCl (sw qs cI s1 ++ bw qb cI bs ++ kw qk qb qr qe qs qu qx qd cI kk) H := hP
    have hk9 := va_P_suf hP
    have t229 := va_P_pre hP
    have hb9 := va_P_suf t229
    have t249 := va_P_pre t229
    have hs9 := t249
    refine lv_dstore (lv' := [(5, .double r9), (4, .int (nI i)), (3, .ref ao), (2, .ref (qm 0)), (1, .ref (qk 0)), (0, .ref b)]) hx hb dL_law_1507 hl (by decide) rfl (fun ls hl => ?_)
    refine lv_aload_n hx hb dL_law_1509 rfl (lv_at hl 3 rfl) ?_
    refine lv_aload_n hx hb dL_law_1510 rfl (lv_at hl 5 rfl) ?_
    refine lv_iload hx hb dL_law_1511 (lv_at hl 1 rfl) ?_
    refine lv_iconst (v := 1) hx hb dL_law_1513 (by decide) ?_
    refine lv_iadd hx hb dL_law_1514 ?_
    refine va_sld hx hb hX hbl (Nat.not_le.mpr hbl) hS (w_in (k := 1) hi hL (by omega)) dL_law_1515 ?_
    refine lv_if_eq (tgt := 1523) hx hb dL_law_1516 (by decide) (fun h9 => absurd h9 hz) (fun _ => ?_)
    refine lv_iconst (v := 1) hx hb dL_law_1519 (by decide) ?_
    refine lv_goto (tgt := 1524) hx hb dL_law_1520 (by decide) ?_
    refine l_calld (Wd := fun m9 => mw qm cI m9) (w0 := mw qm cI mm) (wo := bw qb cI bs ++ sw qs cI s1 ++ uw qu cI cB u ++ aw qr cI tr ++ ew qe cI te ++ xw qx cI x ++ dw qd cI cO eA rd ++ kw qk qb qr qe qs qu qx qd cI kk ++ lo cL ao o) (va_runV (mc := 0) (ms := 0) (As := [.int (bz true)]) (rest := []) ⟨hx, hb, hml, hown, hts⟩ (mX12_middle l dC dI cI cB cO cL qm mm true hIm kM) (cwV 1 hts gW_X12_middle rfl rfl rfl (by decide +kernel) ⟨Nat.le_of_ble_eq_true rfl, Nat.le_of_ble_eq_true rfl⟩) ⟨gP_blind, va_recv hK hm9 (ci := 9) (q0 := 0) rfl rfl, gP_ok hm9 hK⟩ rfl rfl hl.1 rfl (lv_room (Nat.le_of_ble_eq_true rfl)) dL_law_1524 ⟨hcl0, hsl0⟩) (va_P.app (va_P.app (va_P.app (va_P.app (va_P.app (va_P.app (va_P.app (va_P.app hb9 hs9) hu9) hr9) he9) hx9) hd9) hk9) ho9) (gC_T hG [8, 0, 1, 2, 3, 4, 5, 6, 7, 9] rfl rfl) (fun q h => Or.inl (mem_wA h)) (fun q h => Or.inl (mem_wA h)) (gC_N hG [8] rfl rfl) hA hS (fun r2 m2 H locs hp2 hm9 hO hS => ?_)
    have hp2 : (r2, m2) = pX12_middle mm true := hp2
    have ho9 := va_P_suf hO
    have t399 := va_P_pre hO
    have hk9 := va_P_suf t399
    have t419 := va_P_pre t399
    have hd9 := va_P_suf t419
    have t439 := va_P_pre t419
    have hx9 := va_P_suf t439
    have t459 := va_P_pre t439
    have he9 := va_P_suf t459
    have t479 := va_P_pre t459
    have hr9 := va_P_suf t479
    have t499 := va_P_pre t479
    have hu9 := va_P_suf t499
    have t519 := va_P_pre t499
    have hs9 := va_P_suf t519
    have t539 := va_P_pre t519
    have hb9 := t539
    have e2 : r2 = (pX12_middle mm true).1 := by rw [← hp2]
    have e3 : m2 = (pX12_middle mm true).2 := by rw [← hp2]
    rw [← e3] at hR
    rw [← e2] at h4
    subst h4
    refine lv_dstore (lv' := [(7, .double r9), (5, .double r9), (4, .int (nI i)), (3, .ref ao), (2, .ref (qm 0)), (1, .ref (qk 0)), (0, .ref b)]) hx hb dL_law_1527 hl (by decide) rfl (fun ls hl => ?_)
    refine lv_dload hx hb dL_law_1529 (lv_at hl 1 rfl) ?_
    refine lv_dload hx hb dL_law_1531 (lv_at hl 0 rfl) ?_
    refine lv_dcmp hx hb dL_law_1533 ?_
    refine lv_if_eq (tgt := 1555) hx hb dL_law_1534 (by decide) (fun _ => ?_) (fun h9 => ?_)
    · refine lv_goto (tgt := 1972) hx hb dL_law_1555 (by decide) ?_
      exact W.widen (Nat.le_add_right cells 4) (Nat.le_add_right slots 24) (hgo bs s1 u tr te x rd kk m2 o _ _ _ ⟨hb9, hs9, hu9, hr9, he9, hx9, hd9, hk9, hm9, ho9⟩ hR hS (lv_sub hl [2, 3, 4, 5, 6] rfl))
    · refine lv_dload hx hb dL_law_1537 (lv_at hl 1 rfl) ?_
      refine lv_dload hx hb dL_law_1539 (lv_at hl 1 rfl) ?_
      refine lv_dcmp hx hb dL_law_1541 ?_
      refine lv_if_eq (tgt := 1553) hx hb dL_law_1542 (by decide) (fun h8 => absurd h8 h9) (fun _ => ?_)
      refine lv_dload hx hb dL_law_1545 (lv_at hl 0 rfl) ?_
      refine lv_dload hx hb dL_law_1547 (lv_at hl 0 rfl) ?_
      refine lv_dcmp hx hb dL_law_1549 ?_
      refine lv_if_ne (tgt := 1555) hx hb dL_law_1550 (by decide) (fun _ => ?_) (fun h8 => absurd h8 h9)
      refine lv_goto (tgt := 1972) hx hb dL_law_1555 (by decide) ?_
      exact W.widen (Nat.le_add_right cells 4) (Nat.le_add_right slots 24) (hgo bs s1 u tr te x rd kk m2 o _ _ _ ⟨hb9, hs9, hu9, hr9, he9, hx9, hd9, hk9, hm9, ho9⟩ hR hS (lv_sub hl [2, 3, 4, 5, 6] rfl))
end CASES4
