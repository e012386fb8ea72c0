/-! THE LAW'S LARGER METHODS: the calls of helpers -/
section SROWS
set_option maxHeartbeats 4000000 in
set_option maxRecDepth 100000 in
theorem w_begins {l : Launch} (hfl : l.stackTraces = false) {dC : Nat → ClassId} {dI : Nat → Nat → Nat} {cI cB cO cL : ClassId} {N0 : Nat} {sT eA qb qs qu qr qe qk qx qd : Nat → Nat} {b : BS} {s9 : SS} {u : US} {tr te : TS} {kk : Int32} {wo : va_W} {p : Program} {e : Env} {R : Room} {s : State} {m : MethodId} {args : Array Value} {below : List Frame} {meth : Method} {c : Code} {H H0 : Heap} {locs : List Loc} {cells slots : Nat} {Q : State → Prop} {pc nL : Nat} {ls : Array Slot} {rest : List Value} {A : Nat → Prop} {cc : ByteArray} {cw9 : Cond}
    (hx : p.tables.exec = Jvm.exec) (hb : c.code = cc) (hml : c.maxLocals = nL) (hown : s.vm.findClass RL = some m.cls) (hts : ∀ w ∈ cw9 :: gT, w.before args s = true) (hK : va_K (dC, dI) vwCl (tYS cI cB cO cL) s) (hF : eF N0 sT eA s s.heap) (hC : nC s) (hN : ∀ q, A q → N0 ≤ q) (hG : gC A (cpT qb qs qu qr qe qk (wo.map Prod.fst))) (hA : ∀ q, H0.size ≤ q → A q) (hH : s.heap = H0) (hN0 : N0 ≤ H0.size)
    (hS : va_S A H0 H locs) (hI : OI (dC, dI) cI cB qb qs qu qr qe qk qx qd kk (b, s9, u, tr, te) H) (hW : va_P (dC, dI) vwCl wo H) {a1 a2 : Int32} {c9 : Nat} {r9 : Int32} {b' : BS} {s9' : SS} {u' : US} (hf : pX11_begin b s9 u kk a1 a2 = (c9, (r9, (b', s9', u', kk)))) (hk : kX11_begin b s9 u kk a1 a2) (hc : c9 = 0 ∨ c9 = 2)
    (hR : rL_begins.frames + 1 ≤ R.frames ∧ 8 + (4 + 11) + rL_begins.locals ≤ R.locals) (v9 : Int32) (hv9 : rv c9 r9 = v9) (hroom : (rest.map fun v => v.category).sum ≤ 8) (hsz : ls.size = nL) (hdg : decode cc pc = .ok (.invokestatic 44, 3)) (hcl : cells + 4 ≤ R.cells ∧ slots + 24 ≤ R.slots)
    (kk9 : ∀ (H1 : Heap) (locs1 : List Loc), OI (dC, dI) cI cB qb qs qu qr qe qk qx qd kk (b', s9', u', tr, te) H1 → va_P (dC, dI) vwCl wo H1 → va_S A H0 H1 locs1 → W p l e R s m args below meth c H1 locs1 (cells + 4) (slots + 24) Q (F0 m (pc + 3) ls (.int v9 :: rest))) : W p l e R s m args below meth c H locs cells slots Q (F0 m pc ls (.int a2 :: .int a1 :: .ref (qk 0) :: rest)) := by
  obtain ⟨hb9, hs9, hu9, hr9, he9, hk9⟩ := hI
  subst hH hv9
  have hc9 : (pX11_begin b s9 u kk a1 a2).1 = 0 ∨ (pX11_begin b s9 u kk a1 a2).1 = 2 := by rw [hf]; exact hc
  refine i_call (H0 := s.heap) (Wd := (fun z9 : BS × SS × US × Int32 => bw qb cI z9.1 ++ sw qs cI z9.2.1 ++ uw qu cI cB z9.2.2.1 ++ kw qk qb qr qe qs qu qx qd cI z9.2.2.2)) (w0 := bw qb cI b ++ sw qs cI s9 ++ uw qu cI cB u ++ kw qk qb qr qe qs qu qx qd cI kk) (wo := aw qr cI tr ++ ew qe cI te ++ wo) (vx_runSW (mc := 4) (ms := 24) (As := [.ref (qk 0), .int a1, .int a2]) (rest := rest) ⟨hx, hb, hml, hown, hts⟩ (mL_begins l hfl dC dI cI cB cO cL N0 sT eA qb qs qu qk qr qe qx qd b s9 u kk a1 a2 H.size (Nat.le_trans hN0 hS.1) (gC_T hG [0, 1, 2, 5] rfl rfl) (fun a h => hN a (gC_N hG [0, 1, 2, 5] rfl rfl a h)) hk hc9) (vx_cwSW 3 hts (gT_in gQ_L_begins_44) rfl rfl rfl (by decide +kernel) hR) ⟨lP_blind, lP_ok (A := A) (va_P.app (va_P.app (va_P.app hb9 hs9) hu9) hk9) hK hF hC hS hN⟩ rfl rfl hsz rfl (lv_room hroom) hdg hcl) (va_P.app (va_P.app hr9 he9) hW) (gC_T hG [0, 1, 2, 5, 3, 4, 6] rfl rfl) (fun q h => mem_vA h) (fun q h => mem_vA h) (gC_N hG [0, 1, 2, 5] rfl rfl) hA hS (fun r7 v7 H1 locs1 hp hP hO hS1 => ?_)
  rw [hF_of hf] at hp
  obtain ⟨rfl, rfl⟩ := Prod.mk.inj hp
  have nhk9 := va_P_suf hP
  have thP3 := va_P_pre hP
  have nhu9 := va_P_suf thP3
  have thP2 := va_P_pre thP3
  have nhs9 := va_P_suf thP2
  have thP1 := va_P_pre thP2
  have nhb9 := thP1
  have nhW := va_P_suf hO
  have thO2 := va_P_pre hO
  have nhe9 := va_P_suf thO2
  have thO1 := va_P_pre thO2
  have nhr9 := thO1
  exact kk9 H1 locs1 ⟨nhb9, nhs9, nhu9, nhr9, nhe9, nhk9⟩ nhW hS1
set_option maxHeartbeats 4000000 in
set_option maxRecDepth 100000 in
theorem w_mics {l : Launch} (hfl : l.stackTraces = false) {dC : Nat → ClassId} {dI : Nat → Nat → Nat} {cI cB cO cL : ClassId} {N0 : Nat} {sT eA qb qs qu qr qe qk qx qd : Nat → Nat} {b : BS} {s9 : SS} {u : US} {tr te : TS} {kk : Int32} {wo : va_W} {p : Program} {e : Env} {R : Room} {s : State} {m : MethodId} {args : Array Value} {below : List Frame} {meth : Method} {c : Code} {H H0 : Heap} {locs : List Loc} {cells slots : Nat} {Q : State → Prop} {pc nL : Nat} {ls : Array Slot} {rest : List Value} {A : Nat → Prop} {cc : ByteArray} {cw9 : Cond}
    (hx : p.tables.exec = Jvm.exec) (hb : c.code = cc) (hml : c.maxLocals = nL) (hown : s.vm.findClass RL = some m.cls) (hts : ∀ w ∈ cw9 :: gT, w.before args s = true) (hK : va_K (dC, dI) vwCl (tYS cI cB cO cL) s) (hF : eF N0 sT eA s s.heap) (hC : nC s) (hN : ∀ q, A q → N0 ≤ q) (hG : gC A (cpT qb qs qu qr qe qk (wo.map Prod.fst))) (hA : ∀ q, H0.size ≤ q → A q) (hH : s.heap = H0) (hN0 : N0 ≤ H0.size)
    (hS : va_S A H0 H locs) (hI : OI (dC, dI) cI cB qb qs qu qr qe qk qx qd kk (b, s9, u, tr, te) H) (hW : va_P (dC, dI) vwCl wo H) {a1 a2 : Int32} {c9 : Nat} {r9 : Int32} {b' : BS} {s9' : SS} {u' : US} (hf : pX11_addMicrophone b s9 u kk a1 a2 = (c9, (r9, (b', s9', u', kk)))) (hk : kX11_addMicrophone b s9 u kk a1 a2) (hc : c9 = 0 ∨ c9 = 2 ∨ c9 = 3)
    (hR : rL_mics.frames + 1 ≤ R.frames ∧ 8 + (4 + 11) + rL_mics.locals ≤ R.locals) (v9 : Int32) (hv9 : rv c9 r9 = v9) (hroom : (rest.map fun v => v.category).sum ≤ 8) (hsz : ls.size = nL) (hdg : decode cc pc = .ok (.invokestatic 49, 3)) (hcl : cells + 4 ≤ R.cells ∧ slots + 24 ≤ R.slots)
    (kk9 : ∀ (H1 : Heap) (locs1 : List Loc), OI (dC, dI) cI cB qb qs qu qr qe qk qx qd kk (b', s9', u', tr, te) H1 → va_P (dC, dI) vwCl wo H1 → va_S A H0 H1 locs1 → W p l e R s m args below meth c H1 locs1 (cells + 4) (slots + 24) Q (F0 m (pc + 3) ls (.int v9 :: rest))) : W p l e R s m args below meth c H locs cells slots Q (F0 m pc ls (.int a2 :: .int a1 :: .ref (qk 0) :: rest)) := by
  obtain ⟨hb9, hs9, hu9, hr9, he9, hk9⟩ := hI
  subst hH hv9
  have hc9 : (pX11_addMicrophone b s9 u kk a1 a2).1 = 0 ∨ (pX11_addMicrophone b s9 u kk a1 a2).1 = 2 ∨ (pX11_addMicrophone b s9 u kk a1 a2).1 = 3 := by rw [hf]; exact hc
  refine i_call (H0 := s.heap) (Wd := (fun z9 : BS × SS × US × Int32 => bw qb cI z9.1 ++ sw qs cI z9.2.1 ++ uw qu cI cB z9.2.2.1 ++ kw qk qb qr qe qs qu qx qd cI z9.2.2.2)) (w0 := bw qb cI b ++ sw qs cI s9 ++ uw qu cI cB u ++ kw qk qb qr qe qs qu qx qd cI kk) (wo := aw qr cI tr ++ ew qe cI te ++ wo) (vx_runSW (mc := 4) (ms := 24) (As := [.ref (qk 0), .int a1, .int a2]) (rest := rest) ⟨hx, hb, hml, hown, hts⟩ (mL_mics l hfl dC dI cI cB cO cL N0 sT eA qb qs qu qk qr qe qx qd b s9 u kk a1 a2 H.size (Nat.le_trans hN0 hS.1) (gC_T hG [0, 1, 2, 5] rfl rfl) (fun a h => hN a (gC_N hG [0, 1, 2, 5] rfl rfl a h)) hk hc9) (vx_cwSW 3 hts (gT_in gQ_L_mics_49) rfl rfl rfl (by decide +kernel) hR) ⟨lP_blind, lP_ok (A := A) (va_P.app (va_P.app (va_P.app hb9 hs9) hu9) hk9) hK hF hC hS hN⟩ rfl rfl hsz rfl (lv_room hroom) hdg hcl) (va_P.app (va_P.app hr9 he9) hW) (gC_T hG [0, 1, 2, 5, 3, 4, 6] rfl rfl) (fun q h => mem_vA h) (fun q h => mem_vA h) (gC_N hG [0, 1, 2, 5] rfl rfl) hA hS (fun r7 v7 H1 locs1 hp hP hO hS1 => ?_)
  rw [hF_of hf] at hp
  obtain ⟨rfl, rfl⟩ := Prod.mk.inj hp
  have nhk9 := va_P_suf hP
  have thP3 := va_P_pre hP
  have nhu9 := va_P_suf thP3
  have thP2 := va_P_pre thP3
  have nhs9 := va_P_suf thP2
  have thP1 := va_P_pre thP2
  have nhb9 := thP1
  have nhW := va_P_suf hO
  have thO2 := va_P_pre hO
  have nhe9 := va_P_suf thO2
  have thO1 := va_P_pre thO2
  have nhr9 := thO1
  exact kk9 H1 locs1 ⟨nhb9, nhs9, nhu9, nhr9, nhe9, nhk9⟩ nhW hS1
set_option maxHeartbeats 4000000 in
set_option maxRecDepth 100000 in
theorem w_walls {l : Launch} (hfl : l.stackTraces = false) {dC : Nat → ClassId} {dI : Nat → Nat → Nat} {cI cB cO cL : ClassId} {N0 : Nat} {sT eA qb qs qu qr qe qk qx qd : Nat → Nat} {b : BS} {s9 : SS} {u : US} {tr te : TS} {kk : Int32} {wo : va_W} {p : Program} {e : Env} {R : Room} {s : State} {m : MethodId} {args : Array Value} {below : List Frame} {meth : Method} {c : Code} {H H0 : Heap} {locs : List Loc} {cells slots : Nat} {Q : State → Prop} {pc nL : Nat} {ls : Array Slot} {rest : List Value} {A : Nat → Prop} {cc : ByteArray} {cw9 : Cond}
    (hx : p.tables.exec = Jvm.exec) (hb : c.code = cc) (hml : c.maxLocals = nL) (hown : s.vm.findClass RL = some m.cls) (hts : ∀ w ∈ cw9 :: gT, w.before args s = true) (hK : va_K (dC, dI) vwCl (tYS cI cB cO cL) s) (hF : eF N0 sT eA s s.heap) (hC : nC s) (hN : ∀ q, A q → N0 ≤ q) (hG : gC A (cpT qb qs qu qr qe qk (wo.map Prod.fst))) (hA : ∀ q, H0.size ≤ q → A q) (hH : s.heap = H0) (hN0 : N0 ≤ H0.size)
    (hS : va_S A H0 H locs) (hI : OI (dC, dI) cI cB qb qs qu qr qe qk qx qd kk (b, s9, u, tr, te) H) (hW : va_P (dC, dI) vwCl wo H) {a1 a2 a3 : Int32} {c9 : Nat} {r9 : Int32} {b' : BS} {s9' : SS} {u' : US} (hf : pX11_addWall b s9 u kk a1 a2 a3 = (c9, (r9, (b', s9', u', kk)))) (hk : kX11_addWall b s9 u kk a1 a2 a3) (hc : c9 = 0 ∨ c9 = 2 ∨ c9 = 3)
    (hR : rL_walls.frames + 1 ≤ R.frames ∧ 8 + (5 + 11) + rL_walls.locals ≤ R.locals) (v9 : Int32) (hv9 : rv c9 r9 = v9) (hroom : (rest.map fun v => v.category).sum ≤ 8) (hsz : ls.size = nL) (hdg : decode cc pc = .ok (.invokestatic 52, 3)) (hcl : cells + 4 ≤ R.cells ∧ slots + 24 ≤ R.slots)
    (kk9 : ∀ (H1 : Heap) (locs1 : List Loc), OI (dC, dI) cI cB qb qs qu qr qe qk qx qd kk (b', s9', u', tr, te) H1 → va_P (dC, dI) vwCl wo H1 → va_S A H0 H1 locs1 → W p l e R s m args below meth c H1 locs1 (cells + 4) (slots + 24) Q (F0 m (pc + 3) ls (.int v9 :: rest))) : W p l e R s m args below meth c H locs cells slots Q (F0 m pc ls (.int a3 :: .int a2 :: .int a1 :: .ref (qk 0) :: rest)) := by
  obtain ⟨hb9, hs9, hu9, hr9, he9, hk9⟩ := hI
  subst hH hv9
  have hc9 : (pX11_addWall b s9 u kk a1 a2 a3).1 = 0 ∨ (pX11_addWall b s9 u kk a1 a2 a3).1 = 2 ∨ (pX11_addWall b s9 u kk a1 a2 a3).1 = 3 := by rw [hf]; exact hc
  refine i_call (H0 := s.heap) (Wd := (fun z9 : BS × SS × US × Int32 => bw qb cI z9.1 ++ sw qs cI z9.2.1 ++ uw qu cI cB z9.2.2.1 ++ kw qk qb qr qe qs qu qx qd cI z9.2.2.2)) (w0 := bw qb cI b ++ sw qs cI s9 ++ uw qu cI cB u ++ kw qk qb qr qe qs qu qx qd cI kk) (wo := aw qr cI tr ++ ew qe cI te ++ wo) (vx_runSW (mc := 4) (ms := 24) (As := [.ref (qk 0), .int a1, .int a2, .int a3]) (rest := rest) ⟨hx, hb, hml, hown, hts⟩ (mL_walls l hfl dC dI cI cB cO cL N0 sT eA qb qs qu qk qr qe qx qd b s9 u kk a1 a2 a3 H.size (Nat.le_trans hN0 hS.1) (gC_T hG [0, 1, 2, 5] rfl rfl) (fun a h => hN a (gC_N hG [0, 1, 2, 5] rfl rfl a h)) hk hc9) (vx_cwSW 4 hts (gT_in gQ_L_walls_52) rfl rfl rfl (by decide +kernel) hR) ⟨lP_blind, lP_ok (A := A) (va_P.app (va_P.app (va_P.app hb9 hs9) hu9) hk9) hK hF hC hS hN⟩ rfl rfl hsz rfl (lv_room hroom) hdg hcl) (va_P.app (va_P.app hr9 he9) hW) (gC_T hG [0, 1, 2, 5, 3, 4, 6] rfl rfl) (fun q h => mem_vA h) (fun q h => mem_vA h) (gC_N hG [0, 1, 2, 5] rfl rfl) hA hS (fun r7 v7 H1 locs1 hp hP hO hS1 => ?_)
  rw [hF_of hf] at hp
  obtain ⟨rfl, rfl⟩ := Prod.mk.inj hp
  have nhk9 := va_P_suf hP
  have thP3 := va_P_pre hP
  have nhu9 := va_P_suf thP3
  have thP2 := va_P_pre thP3
  have nhs9 := va_P_suf thP2
  have thP1 := va_P_pre thP2
  have nhb9 := thP1
  have nhW := va_P_suf hO
  have thO2 := va_P_pre hO
  have nhe9 := va_P_suf thO2
  have thO1 := va_P_pre thO2
  have nhr9 := thO1
  exact kk9 H1 locs1 ⟨nhb9, nhs9, nhu9, nhr9, nhe9, nhk9⟩ nhW hS1
set_option maxHeartbeats 4000000 in
set_option maxRecDepth 100000 in
theorem w_screens {l : Launch} (hfl : l.stackTraces = false) {dC : Nat → ClassId} {dI : Nat → Nat → Nat} {cI cB cO cL : ClassId} {N0 : Nat} {sT eA qb qs qu qr qe qk qx qd : Nat → Nat} {b : BS} {s9 : SS} {u : US} {tr te : TS} {kk : Int32} {wo : va_W} {p : Program} {e : Env} {R : Room} {s : State} {m : MethodId} {args : Array Value} {below : List Frame} {meth : Method} {c : Code} {H H0 : Heap} {locs : List Loc} {cells slots : Nat} {Q : State → Prop} {pc nL : Nat} {ls : Array Slot} {rest : List Value} {A : Nat → Prop} {cc : ByteArray} {cw9 : Cond}
    (hx : p.tables.exec = Jvm.exec) (hb : c.code = cc) (hml : c.maxLocals = nL) (hown : s.vm.findClass RL = some m.cls) (hts : ∀ w ∈ cw9 :: gT, w.before args s = true) (hK : va_K (dC, dI) vwCl (tYS cI cB cO cL) s) (hF : eF N0 sT eA s s.heap) (hC : nC s) (hN : ∀ q, A q → N0 ≤ q) (hG : gC A (cpT qb qs qu qr qe qk (wo.map Prod.fst))) (hA : ∀ q, H0.size ≤ q → A q) (hH : s.heap = H0) (hN0 : N0 ≤ H0.size)
    (hS : va_S A H0 H locs) (hI : OI (dC, dI) cI cB qb qs qu qr qe qk qx qd kk (b, s9, u, tr, te) H) (hW : va_P (dC, dI) vwCl wo H) {a1 a2 a3 a4 : Int32} {c9 : Nat} {r9 : Int32} {b' : BS} {s9' : SS} {u' : US} (hf : pX11_addScreen b s9 u kk a1 a2 a3 a4 = (c9, (r9, (b', s9', u', kk)))) (hk : kX11_addScreen b s9 u kk a1 a2 a3 a4) (hc : c9 = 0 ∨ c9 = 2 ∨ c9 = 3)
    (hR : rL_screens.frames + 1 ≤ R.frames ∧ 8 + (6 + 11) + rL_screens.locals ≤ R.locals) (v9 : Int32) (hv9 : rv c9 r9 = v9) (hroom : (rest.map fun v => v.category).sum ≤ 8) (hsz : ls.size = nL) (hdg : decode cc pc = .ok (.invokestatic 56, 3)) (hcl : cells + 4 ≤ R.cells ∧ slots + 24 ≤ R.slots)
    (kk9 : ∀ (H1 : Heap) (locs1 : List Loc), OI (dC, dI) cI cB qb qs qu qr qe qk qx qd kk (b', s9', u', tr, te) H1 → va_P (dC, dI) vwCl wo H1 → va_S A H0 H1 locs1 → W p l e R s m args below meth c H1 locs1 (cells + 4) (slots + 24) Q (F0 m (pc + 3) ls (.int v9 :: rest))) : W p l e R s m args below meth c H locs cells slots Q (F0 m pc ls (.int a4 :: .int a3 :: .int a2 :: .int a1 :: .ref (qk 0) :: rest)) := by
  obtain ⟨hb9, hs9, hu9, hr9, he9, hk9⟩ := hI
  subst hH hv9
  have hc9 : (pX11_addScreen b s9 u kk a1 a2 a3 a4).1 = 0 ∨ (pX11_addScreen b s9 u kk a1 a2 a3 a4).1 = 2 ∨ (pX11_addScreen b s9 u kk a1 a2 a3 a4).1 = 3 := by rw [hf]; exact hc
  refine i_call (H0 := s.heap) (Wd := (fun z9 : BS × SS × US × Int32 => bw qb cI z9.1 ++ sw qs cI z9.2.1 ++ uw qu cI cB z9.2.2.1 ++ kw qk qb qr qe qs qu qx qd cI z9.2.2.2)) (w0 := bw qb cI b ++ sw qs cI s9 ++ uw qu cI cB u ++ kw qk qb qr qe qs qu qx qd cI kk) (wo := aw qr cI tr ++ ew qe cI te ++ wo) (vx_runSW (mc := 4) (ms := 24) (As := [.ref (qk 0), .int a1, .int a2, .int a3, .int a4]) (rest := rest) ⟨hx, hb, hml, hown, hts⟩ (mL_screens l hfl dC dI cI cB cO cL N0 sT eA qb qs qu qk qr qe qx qd b s9 u kk a1 a2 a3 a4 H.size (Nat.le_trans hN0 hS.1) (gC_T hG [0, 1, 2, 5] rfl rfl) (fun a h => hN a (gC_N hG [0, 1, 2, 5] rfl rfl a h)) hk hc9) (vx_cwSW 5 hts (gT_in gQ_L_screens_56) rfl rfl rfl (by decide +kernel) hR) ⟨lP_blind, lP_ok (A := A) (va_P.app (va_P.app (va_P.app hb9 hs9) hu9) hk9) hK hF hC hS hN⟩ rfl rfl hsz rfl (lv_room hroom) hdg hcl) (va_P.app (va_P.app hr9 he9) hW) (gC_T hG [0, 1, 2, 5, 3, 4, 6] rfl rfl) (fun q h => mem_vA h) (fun q h => mem_vA h) (gC_N hG [0, 1, 2, 5] rfl rfl) hA hS (fun r7 v7 H1 locs1 hp hP hO hS1 => ?_)
  rw [hF_of hf] at hp
  obtain ⟨rfl, rfl⟩ := Prod.mk.inj hp
  have nhk9 := va_P_suf hP
  have thP3 := va_P_pre hP
  have nhu9 := va_P_suf thP3
  have thP2 := va_P_pre thP3
  have nhs9 := va_P_suf thP2
  have thP1 := va_P_pre thP2
  have nhb9 := thP1
  have nhW := va_P_suf hO
  have thO2 := va_P_pre hO
  have nhe9 := va_P_suf thO2
  have thO1 := va_P_pre thO2
  have nhr9 := thO1
  exact kk9 H1 locs1 ⟨nhb9, nhs9, nhu9, nhr9, nhe9, nhk9⟩ nhW hS1
set_option maxHeartbeats 4000000 in
set_option maxRecDepth 100000 in
theorem w_drops {l : Launch} (hfl : l.stackTraces = false) {dC : Nat → ClassId} {dI : Nat → Nat → Nat} {cI cB cO cL : ClassId} {N0 : Nat} {sT eA qb qs qu qr qe qk qx qd : Nat → Nat} {b : BS} {s9 : SS} {u : US} {tr te : TS} {kk : Int32} {wo : va_W} {p : Program} {e : Env} {R : Room} {s : State} {m : MethodId} {args : Array Value} {below : List Frame} {meth : Method} {c : Code} {H H0 : Heap} {locs : List Loc} {cells slots : Nat} {Q : State → Prop} {pc nL : Nat} {ls : Array Slot} {rest : List Value} {A : Nat → Prop} {cc : ByteArray} {cw9 : Cond}
    (hx : p.tables.exec = Jvm.exec) (hb : c.code = cc) (hml : c.maxLocals = nL) (hown : s.vm.findClass RL = some m.cls) (hts : ∀ w ∈ cw9 :: gT, w.before args s = true) (hK : va_K (dC, dI) vwCl (tYS cI cB cO cL) s) (hF : eF N0 sT eA s s.heap) (hC : nC s) (hN : ∀ q, A q → N0 ≤ q) (hG : gC A (cpT qb qs qu qr qe qk (wo.map Prod.fst))) (hA : ∀ q, H0.size ≤ q → A q) (hH : s.heap = H0) (hN0 : N0 ≤ H0.size)
    (hS : va_S A H0 H locs) (hI : OI (dC, dI) cI cB qb qs qu qr qe qk qx qd kk (b, s9, u, tr, te) H) (hW : va_P (dC, dI) vwCl wo H) {a1 a2 : Int32} {c9 : Nat} {r9 : Int32} {b' : BS} {s9' : SS} {u' : US} (hf : pX11_remove b s9 u kk a1 a2 = (c9, (r9, (b', s9', u', kk)))) (hk : kX11_remove b s9 u kk a1 a2) (hc : c9 = 0 ∨ c9 = 2 ∨ c9 = 1)
    (hR : rL_drops.frames + 1 ≤ R.frames ∧ 8 + (4 + 11) + rL_drops.locals ≤ R.locals) (v9 : Int32) (hv9 : rv c9 r9 = v9) (hroom : (rest.map fun v => v.category).sum ≤ 8) (hsz : ls.size = nL) (hdg : decode cc pc = .ok (.invokestatic 60, 3)) (hcl : cells + 4 ≤ R.cells ∧ slots + 24 ≤ R.slots)
    (kk9 : ∀ (H1 : Heap) (locs1 : List Loc), OI (dC, dI) cI cB qb qs qu qr qe qk qx qd kk (b', s9', u', tr, te) H1 → va_P (dC, dI) vwCl wo H1 → va_S A H0 H1 locs1 → W p l e R s m args below meth c H1 locs1 (cells + 4) (slots + 24) Q (F0 m (pc + 3) ls (.int v9 :: rest))) : W p l e R s m args below meth c H locs cells slots Q (F0 m pc ls (.int a2 :: .int a1 :: .ref (qk 0) :: rest)) := by
  obtain ⟨hb9, hs9, hu9, hr9, he9, hk9⟩ := hI
  subst hH hv9
  have hc9 : (pX11_remove b s9 u kk a1 a2).1 = 0 ∨ (pX11_remove b s9 u kk a1 a2).1 = 2 ∨ (pX11_remove b s9 u kk a1 a2).1 = 1 := by rw [hf]; exact hc
  refine i_call (H0 := s.heap) (Wd := (fun z9 : BS × SS × US × Int32 => bw qb cI z9.1 ++ sw qs cI z9.2.1 ++ uw qu cI cB z9.2.2.1 ++ kw qk qb qr qe qs qu qx qd cI z9.2.2.2)) (w0 := bw qb cI b ++ sw qs cI s9 ++ uw qu cI cB u ++ kw qk qb qr qe qs qu qx qd cI kk) (wo := aw qr cI tr ++ ew qe cI te ++ wo) (vx_runSW (mc := 4) (ms := 24) (As := [.ref (qk 0), .int a1, .int a2]) (rest := rest) ⟨hx, hb, hml, hown, hts⟩ (mL_drops l hfl dC dI cI cB cO cL N0 sT eA qb qs qu qk qr qe qx qd b s9 u kk a1 a2 H.size (Nat.le_trans hN0 hS.1) (gC_T hG [0, 1, 2, 5] rfl rfl) (fun a h => hN a (gC_N hG [0, 1, 2, 5] rfl rfl a h)) hk hc9) (vx_cwSW 3 hts (gT_in gQ_L_drops_60) rfl rfl rfl (by decide +kernel) hR) ⟨lP_blind, lP_ok (A := A) (va_P.app (va_P.app (va_P.app hb9 hs9) hu9) hk9) hK hF hC hS hN⟩ rfl rfl hsz rfl (lv_room hroom) hdg hcl) (va_P.app (va_P.app hr9 he9) hW) (gC_T hG [0, 1, 2, 5, 3, 4, 6] rfl rfl) (fun q h => mem_vA h) (fun q h => mem_vA h) (gC_N hG [0, 1, 2, 5] rfl rfl) hA hS (fun r7 v7 H1 locs1 hp hP hO hS1 => ?_)
  rw [hF_of hf] at hp
  obtain ⟨rfl, rfl⟩ := Prod.mk.inj hp
  have nhk9 := va_P_suf hP
  have thP3 := va_P_pre hP
  have nhu9 := va_P_suf thP3
  have thP2 := va_P_pre thP3
  have nhs9 := va_P_suf thP2
  have thP1 := va_P_pre thP2
  have nhb9 := thP1
  have nhW := va_P_suf hO
  have thO2 := va_P_pre hO
  have nhe9 := va_P_suf thO2
  have thO1 := va_P_pre thO2
  have nhr9 := thO1
  exact kk9 H1 locs1 ⟨nhb9, nhs9, nhu9, nhr9, nhe9, nhk9⟩ nhW hS1
set_option maxHeartbeats 4000000 in
set_option maxRecDepth 100000 in
theorem w_sets {l : Launch} (hfl : l.stackTraces = false) {dC : Nat → ClassId} {dI : Nat → Nat → Nat} {cI cB cO cL : ClassId} {N0 : Nat} {sT eA qb qs qu qr qe qk qx qd : Nat → Nat} {b : BS} {s9 : SS} {u : US} {tr te : TS} {kk : Int32} {wo : va_W} {p : Program} {e : Env} {R : Room} {s : State} {m : MethodId} {args : Array Value} {below : List Frame} {meth : Method} {c : Code} {H H0 : Heap} {locs : List Loc} {cells slots : Nat} {Q : State → Prop} {pc nL : Nat} {ls : Array Slot} {rest : List Value} {A : Nat → Prop} {cc : ByteArray} {cw9 : Cond}
    (hx : p.tables.exec = Jvm.exec) (hb : c.code = cc) (hml : c.maxLocals = nL) (hown : s.vm.findClass RL = some m.cls) (hts : ∀ w ∈ cw9 :: gT, w.before args s = true) (hK : va_K (dC, dI) vwCl (tYS cI cB cO cL) s) (hF : eF N0 sT eA s s.heap) (hC : nC s) (hN : ∀ q, A q → N0 ≤ q) (hG : gC A (cpT qb qs qu qr qe qk (wo.map Prod.fst))) (hA : ∀ q, H0.size ≤ q → A q) (hH : s.heap = H0) (hN0 : N0 ≤ H0.size)
    (hS : va_S A H0 H locs) (hI : OI (dC, dI) cI cB qb qs qu qr qe qk qx qd kk (b, s9, u, tr, te) H) (hW : va_P (dC, dI) vwCl wo H) {a1 a2 : Int32} {c9 : Nat} {r9 : Int32} {b' : BS} {s9' : SS} {u' : US} (hf : pX11_set b s9 u kk a1 a2 = (c9, (r9, (b', s9', u', kk)))) (hk : kX11_set b s9 u kk a1 a2) (hc : c9 = 0 ∨ c9 = 2)
    (hR : rL_sets.frames + 1 ≤ R.frames ∧ 8 + (4 + 11) + rL_sets.locals ≤ R.locals) (v9 : Int32) (hv9 : rv c9 r9 = v9) (hroom : (rest.map fun v => v.category).sum ≤ 8) (hsz : ls.size = nL) (hdg : decode cc pc = .ok (.invokestatic 74, 3)) (hcl : cells + 4 ≤ R.cells ∧ slots + 24 ≤ R.slots)
    (kk9 : ∀ (H1 : Heap) (locs1 : List Loc), OI (dC, dI) cI cB qb qs qu qr qe qk qx qd kk (b', s9', u', tr, te) H1 → va_P (dC, dI) vwCl wo H1 → va_S A H0 H1 locs1 → W p l e R s m args below meth c H1 locs1 (cells + 4) (slots + 24) Q (F0 m (pc + 3) ls (.int v9 :: rest))) : W p l e R s m args below meth c H locs cells slots Q (F0 m pc ls (.int a2 :: .int a1 :: .ref (qk 0) :: rest)) := by
  obtain ⟨hb9, hs9, hu9, hr9, he9, hk9⟩ := hI
  subst hH hv9
  have hc9 : (pX11_set b s9 u kk a1 a2).1 = 0 ∨ (pX11_set b s9 u kk a1 a2).1 = 2 := by rw [hf]; exact hc
  refine i_call (H0 := s.heap) (Wd := (fun z9 : BS × SS × US × Int32 => bw qb cI z9.1 ++ sw qs cI z9.2.1 ++ uw qu cI cB z9.2.2.1 ++ kw qk qb qr qe qs qu qx qd cI z9.2.2.2)) (w0 := bw qb cI b ++ sw qs cI s9 ++ uw qu cI cB u ++ kw qk qb qr qe qs qu qx qd cI kk) (wo := aw qr cI tr ++ ew qe cI te ++ wo) (vx_runSW (mc := 4) (ms := 24) (As := [.ref (qk 0), .int a1, .int a2]) (rest := rest) ⟨hx, hb, hml, hown, hts⟩ (mL_sets l hfl dC dI cI cB cO cL N0 sT eA qb qs qu qk qr qe qx qd b s9 u kk a1 a2 H.size (Nat.le_trans hN0 hS.1) (gC_T hG [0, 1, 2, 5] rfl rfl) (fun a h => hN a (gC_N hG [0, 1, 2, 5] rfl rfl a h)) hk hc9) (vx_cwSW 3 hts (gT_in gQ_L_sets_74) rfl rfl rfl (by decide +kernel) hR) ⟨lP_blind, lP_ok (A := A) (va_P.app (va_P.app (va_P.app hb9 hs9) hu9) hk9) hK hF hC hS hN⟩ rfl rfl hsz rfl (lv_room hroom) hdg hcl) (va_P.app (va_P.app hr9 he9) hW) (gC_T hG [0, 1, 2, 5, 3, 4, 6] rfl rfl) (fun q h => mem_vA h) (fun q h => mem_vA h) (gC_N hG [0, 1, 2, 5] rfl rfl) hA hS (fun r7 v7 H1 locs1 hp hP hO hS1 => ?_)
  rw [hF_of hf] at hp
  obtain ⟨rfl, rfl⟩ := Prod.mk.inj hp
  have nhk9 := va_P_suf hP
  have thP3 := va_P_pre hP
  have nhu9 := va_P_suf thP3
  have thP2 := va_P_pre thP3
  have nhs9 := va_P_suf thP2
  have thP1 := va_P_pre thP2
  have nhb9 := thP1
  have nhW := va_P_suf hO
  have thO2 := va_P_pre hO
  have nhe9 := va_P_suf thO2
  have thO1 := va_P_pre thO2
  have nhr9 := thO1
  exact kk9 H1 locs1 ⟨nhb9, nhs9, nhu9, nhr9, nhe9, nhk9⟩ nhW hS1
set_option maxHeartbeats 4000000 in
set_option maxRecDepth 100000 in
theorem w_seeds {l : Launch} (hfl : l.stackTraces = false) {dC : Nat → ClassId} {dI : Nat → Nat → Nat} {cI cB cO cL : ClassId} {N0 : Nat} {sT eA qb qs qu qr qe qk qx qd : Nat → Nat} {b : BS} {s9 : SS} {u : US} {tr te : TS} {kk : Int32} {wo : va_W} {p : Program} {e : Env} {R : Room} {s : State} {m : MethodId} {args : Array Value} {below : List Frame} {meth : Method} {c : Code} {H H0 : Heap} {locs : List Loc} {cells slots : Nat} {Q : State → Prop} {pc nL : Nat} {ls : Array Slot} {rest : List Value} {A : Nat → Prop} {cc : ByteArray} {cw9 : Cond}
    (hx : p.tables.exec = Jvm.exec) (hb : c.code = cc) (hml : c.maxLocals = nL) (hown : s.vm.findClass RL = some m.cls) (hts : ∀ w ∈ cw9 :: gT, w.before args s = true) (hK : va_K (dC, dI) vwCl (tYS cI cB cO cL) s) (hF : eF N0 sT eA s s.heap) (hC : nC s) (hN : ∀ q, A q → N0 ≤ q) (hG : gC A (cpT qb qs qu qr qe qk (wo.map Prod.fst))) (hA : ∀ q, H0.size ≤ q → A q) (hH : s.heap = H0) (hN0 : N0 ≤ H0.size)
    (hS : va_S A H0 H locs) (hI : OI (dC, dI) cI cB qb qs qu qr qe qk qx qd kk (b, s9, u, tr, te) H) (hW : va_P (dC, dI) vwCl wo H) {a1 : Int32} {c9 : Nat} {r9 : Int32} {b' : BS} {s9' : SS} {u' : US} (hf : pX11_setS b s9 u kk a1 = (c9, (r9, (b', s9', u', kk)))) (hk : kX11_setS b s9 u kk a1) (hc : c9 = 0 ∨ c9 = 2)
    (hR : rL_seeds.frames + 1 ≤ R.frames ∧ 8 + (3 + 11) + rL_seeds.locals ≤ R.locals) (v9 : Int32) (hv9 : rv c9 r9 = v9) (hroom : (rest.map fun v => v.category).sum ≤ 8) (hsz : ls.size = nL) (hdg : decode cc pc = .ok (.invokestatic 77, 3)) (hcl : cells + 4 ≤ R.cells ∧ slots + 24 ≤ R.slots)
    (kk9 : ∀ (H1 : Heap) (locs1 : List Loc), OI (dC, dI) cI cB qb qs qu qr qe qk qx qd kk (b', s9', u', tr, te) H1 → va_P (dC, dI) vwCl wo H1 → va_S A H0 H1 locs1 → W p l e R s m args below meth c H1 locs1 (cells + 4) (slots + 24) Q (F0 m (pc + 3) ls (.int v9 :: rest))) : W p l e R s m args below meth c H locs cells slots Q (F0 m pc ls (.int a1 :: .ref (qk 0) :: rest)) := by
  obtain ⟨hb9, hs9, hu9, hr9, he9, hk9⟩ := hI
  subst hH hv9
  have hc9 : (pX11_setS b s9 u kk a1).1 = 0 ∨ (pX11_setS b s9 u kk a1).1 = 2 := by rw [hf]; exact hc
  refine i_call (H0 := s.heap) (Wd := (fun z9 : BS × SS × US × Int32 => bw qb cI z9.1 ++ sw qs cI z9.2.1 ++ uw qu cI cB z9.2.2.1 ++ kw qk qb qr qe qs qu qx qd cI z9.2.2.2)) (w0 := bw qb cI b ++ sw qs cI s9 ++ uw qu cI cB u ++ kw qk qb qr qe qs qu qx qd cI kk) (wo := aw qr cI tr ++ ew qe cI te ++ wo) (vx_runSW (mc := 4) (ms := 24) (As := [.ref (qk 0), .int a1]) (rest := rest) ⟨hx, hb, hml, hown, hts⟩ (mL_seeds l hfl dC dI cI cB cO cL N0 sT eA qb qs qu qk qr qe qx qd b s9 u kk a1 H.size (Nat.le_trans hN0 hS.1) (gC_T hG [0, 1, 2, 5] rfl rfl) (fun a h => hN a (gC_N hG [0, 1, 2, 5] rfl rfl a h)) hk hc9) (vx_cwSW 2 hts (gT_in gQ_L_seeds_77) rfl rfl rfl (by decide +kernel) hR) ⟨lP_blind, lP_ok (A := A) (va_P.app (va_P.app (va_P.app hb9 hs9) hu9) hk9) hK hF hC hS hN⟩ rfl rfl hsz rfl (lv_room hroom) hdg hcl) (va_P.app (va_P.app hr9 he9) hW) (gC_T hG [0, 1, 2, 5, 3, 4, 6] rfl rfl) (fun q h => mem_vA h) (fun q h => mem_vA h) (gC_N hG [0, 1, 2, 5] rfl rfl) hA hS (fun r7 v7 H1 locs1 hp hP hO hS1 => ?_)
  rw [hF_of hf] at hp
  obtain ⟨rfl, rfl⟩ := Prod.mk.inj hp
  have nhk9 := va_P_suf hP
  have thP3 := va_P_pre hP
  have nhu9 := va_P_suf thP3
  have thP2 := va_P_pre thP3
  have nhs9 := va_P_suf thP2
  have thP1 := va_P_pre thP2
  have nhb9 := thP1
  have nhW := va_P_suf hO
  have thO2 := va_P_pre hO
  have nhe9 := va_P_suf thO2
  have thO1 := va_P_pre thO2
  have nhr9 := thO1
  exact kk9 H1 locs1 ⟨nhb9, nhs9, nhu9, nhr9, nhe9, nhk9⟩ nhW hS1
set_option maxHeartbeats 4000000 in
set_option maxRecDepth 100000 in
theorem w_clocks {l : Launch} (hfl : l.stackTraces = false) {dC : Nat → ClassId} {dI : Nat → Nat → Nat} {cI cB cO cL : ClassId} {N0 : Nat} {sT eA qb qs qu qr qe qk qx qd : Nat → Nat} {b : BS} {s9 : SS} {u : US} {tr te : TS} {kk : Int32} {wo : va_W} {p : Program} {e : Env} {R : Room} {s : State} {m : MethodId} {args : Array Value} {below : List Frame} {meth : Method} {c : Code} {H H0 : Heap} {locs : List Loc} {cells slots : Nat} {Q : State → Prop} {pc nL : Nat} {ls : Array Slot} {rest : List Value} {A : Nat → Prop} {cc : ByteArray} {cw9 : Cond}
    (hx : p.tables.exec = Jvm.exec) (hb : c.code = cc) (hml : c.maxLocals = nL) (hown : s.vm.findClass RL = some m.cls) (hts : ∀ w ∈ cw9 :: gT, w.before args s = true) (hK : va_K (dC, dI) vwCl (tYS cI cB cO cL) s) (hF : eF N0 sT eA s s.heap) (hC : nC s) (hN : ∀ q, A q → N0 ≤ q) (hG : gC A (cpT qb qs qu qr qe qk (wo.map Prod.fst))) (hA : ∀ q, H0.size ≤ q → A q) (hH : s.heap = H0) (hN0 : N0 ≤ H0.size)
    (hS : va_S A H0 H locs) (hI : OI (dC, dI) cI cB qb qs qu qr qe qk qx qd kk (b, s9, u, tr, te) H) (hW : va_P (dC, dI) vwCl wo H) {a1 a2 : Int32} {c9 : Nat} {r9 : Int32} {b' : BS} {s9' : SS} {u' : US} (hf : pX11_setClock b s9 u kk a1 a2 = (c9, (r9, (b', s9', u', kk)))) (hk : kX11_setClock b s9 u kk a1 a2) (hc : c9 = 0 ∨ c9 = 1 ∨ c9 = 2)
    (hR : rL_clocks.frames + 1 ≤ R.frames ∧ 8 + (4 + 11) + rL_clocks.locals ≤ R.locals) (v9 : Int32) (hv9 : rv c9 r9 = v9) (hroom : (rest.map fun v => v.category).sum ≤ 8) (hsz : ls.size = nL) (hdg : decode cc pc = .ok (.invokestatic 81, 3)) (hcl : cells + 4 ≤ R.cells ∧ slots + 24 ≤ R.slots)
    (kk9 : ∀ (H1 : Heap) (locs1 : List Loc), OI (dC, dI) cI cB qb qs qu qr qe qk qx qd kk (b', s9', u', tr, te) H1 → va_P (dC, dI) vwCl wo H1 → va_S A H0 H1 locs1 → W p l e R s m args below meth c H1 locs1 (cells + 4) (slots + 24) Q (F0 m (pc + 3) ls (.int v9 :: rest))) : W p l e R s m args below meth c H locs cells slots Q (F0 m pc ls (.int a2 :: .int a1 :: .ref (qk 0) :: rest)) := by
  obtain ⟨hb9, hs9, hu9, hr9, he9, hk9⟩ := hI
  subst hH hv9
  have hc9 : (pX11_setClock b s9 u kk a1 a2).1 = 0 ∨ (pX11_setClock b s9 u kk a1 a2).1 = 1 ∨ (pX11_setClock b s9 u kk a1 a2).1 = 2 := by rw [hf]; exact hc
  refine i_call (H0 := s.heap) (Wd := (fun z9 : BS × SS × US × Int32 => bw qb cI z9.1 ++ sw qs cI z9.2.1 ++ uw qu cI cB z9.2.2.1 ++ kw qk qb qr qe qs qu qx qd cI z9.2.2.2)) (w0 := bw qb cI b ++ sw qs cI s9 ++ uw qu cI cB u ++ kw qk qb qr qe qs qu qx qd cI kk) (wo := aw qr cI tr ++ ew qe cI te ++ wo) (vx_runSW (mc := 4) (ms := 24) (As := [.ref (qk 0), .int a1, .int a2]) (rest := rest) ⟨hx, hb, hml, hown, hts⟩ (mL_clocks l hfl dC dI cI cB cO cL N0 sT eA qb qs qu qk qr qe qx qd b s9 u kk a1 a2 H.size (Nat.le_trans hN0 hS.1) (gC_T hG [0, 1, 2, 5] rfl rfl) (fun a h => hN a (gC_N hG [0, 1, 2, 5] rfl rfl a h)) hk hc9) (vx_cwSW 3 hts (gT_in gQ_L_clocks_81) rfl rfl rfl (by decide +kernel) hR) ⟨lP_blind, lP_ok (A := A) (va_P.app (va_P.app (va_P.app hb9 hs9) hu9) hk9) hK hF hC hS hN⟩ rfl rfl hsz rfl (lv_room hroom) hdg hcl) (va_P.app (va_P.app hr9 he9) hW) (gC_T hG [0, 1, 2, 5, 3, 4, 6] rfl rfl) (fun q h => mem_vA h) (fun q h => mem_vA h) (gC_N hG [0, 1, 2, 5] rfl rfl) hA hS (fun r7 v7 H1 locs1 hp hP hO hS1 => ?_)
  rw [hF_of hf] at hp
  obtain ⟨rfl, rfl⟩ := Prod.mk.inj hp
  have nhk9 := va_P_suf hP
  have thP3 := va_P_pre hP
  have nhu9 := va_P_suf thP3
  have thP2 := va_P_pre thP3
  have nhs9 := va_P_suf thP2
  have thP1 := va_P_pre thP2
  have nhb9 := thP1
  have nhW := va_P_suf hO
  have thO2 := va_P_pre hO
  have nhe9 := va_P_suf thO2
  have thO1 := va_P_pre thO2
  have nhr9 := thO1
  exact kk9 H1 locs1 ⟨nhb9, nhs9, nhu9, nhr9, nhe9, nhk9⟩ nhW hS1
set_option maxHeartbeats 4000000 in
set_option maxRecDepth 100000 in
theorem w_knows {l : Launch} (hfl : l.stackTraces = false) {dC : Nat → ClassId} {dI : Nat → Nat → Nat} {cI cB cO cL : ClassId} {N0 : Nat} {sT eA qb qs qu qr qe qk qx qd : Nat → Nat} {b : BS} {s9 : SS} {u : US} {tr te : TS} {kk : Int32} {wo : va_W} {p : Program} {e : Env} {R : Room} {s : State} {m : MethodId} {args : Array Value} {below : List Frame} {meth : Method} {c : Code} {H H0 : Heap} {locs : List Loc} {cells slots : Nat} {Q : State → Prop} {pc nL : Nat} {ls : Array Slot} {rest : List Value} {A : Nat → Prop} {cc : ByteArray} {cw9 : Cond}
    (hx : p.tables.exec = Jvm.exec) (hb : c.code = cc) (hml : c.maxLocals = nL) (hown : s.vm.findClass RL = some m.cls) (hts : ∀ w ∈ cw9 :: gT, w.before args s = true) (hK : va_K (dC, dI) vwCl (tYS cI cB cO cL) s) (hF : eF N0 sT eA s s.heap) (hC : nC s) (hN : ∀ q, A q → N0 ≤ q) (hG : gC A (cpT qb qs qu qr qe qk (wo.map Prod.fst))) (hA : ∀ q, H0.size ≤ q → A q) (hH : s.heap = H0) (hN0 : N0 ≤ H0.size)
    (hS : va_S A H0 H locs) (hI : OI (dC, dI) cI cB qb qs qu qr qe qk qx qd kk (b, s9, u, tr, te) H) (hW : va_P (dC, dI) vwCl wo H) {a1 a2 a3 : Int32} {c9 : Nat} {r9 : Int32} {te' : TS} {b' : BS} {s9' : SS} {u' : US} (hf : pX11_calibrate te b s9 u kk a1 a2 a3 = (c9, (r9, (te', b', s9', u', kk)))) (hk : kX11_calibrate te b s9 u kk a1 a2 a3) (hc : c9 = 0 ∨ c9 = 2 ∨ c9 = 3)
    (hR : rL_knows.frames + 1 ≤ R.frames ∧ 8 + (5 + 11) + rL_knows.locals ≤ R.locals) (v9 : Int32) (hv9 : rv c9 r9 = v9) (hroom : (rest.map fun v => v.category).sum ≤ 8) (hsz : ls.size = nL) (hdg : decode cc pc = .ok (.invokestatic 89, 3)) (hcl : cells + 4 ≤ R.cells ∧ slots + 24 ≤ R.slots)
    (kk9 : ∀ (H1 : Heap) (locs1 : List Loc), OI (dC, dI) cI cB qb qs qu qr qe qk qx qd kk (b', s9', u', tr, te') H1 → va_P (dC, dI) vwCl wo H1 → va_S A H0 H1 locs1 → W p l e R s m args below meth c H1 locs1 (cells + 4) (slots + 24) Q (F0 m (pc + 3) ls (.int v9 :: rest))) : W p l e R s m args below meth c H locs cells slots Q (F0 m pc ls (.int a3 :: .int a2 :: .int a1 :: .ref (qk 0) :: rest)) := by
  obtain ⟨hb9, hs9, hu9, hr9, he9, hk9⟩ := hI
  subst hH hv9
  have hc9 : (pX11_calibrate te b s9 u kk a1 a2 a3).1 = 0 ∨ (pX11_calibrate te b s9 u kk a1 a2 a3).1 = 2 ∨ (pX11_calibrate te b s9 u kk a1 a2 a3).1 = 3 := by rw [hf]; exact hc
  refine i_call (H0 := s.heap) (Wd := (fun z9 : TS × BS × SS × US × Int32 => ew qe cI z9.1 ++ bw qb cI z9.2.1 ++ sw qs cI z9.2.2.1 ++ uw qu cI cB z9.2.2.2.1 ++ kw qk qb qr qe qs qu qx qd cI z9.2.2.2.2)) (w0 := ew qe cI te ++ bw qb cI b ++ sw qs cI s9 ++ uw qu cI cB u ++ kw qk qb qr qe qs qu qx qd cI kk) (wo := aw qr cI tr ++ wo) (vx_runSW (mc := 4) (ms := 24) (As := [.ref (qk 0), .int a1, .int a2, .int a3]) (rest := rest) ⟨hx, hb, hml, hown, hts⟩ (mL_knows l hfl dC dI cI cB cO cL N0 sT eA qe qb qs qu qk qr qx qd te b s9 u kk a1 a2 a3 H.size (Nat.le_trans hN0 hS.1) (gC_T hG [4, 0, 1, 2, 5] rfl rfl) (fun a h => hN a (gC_N hG [4, 0, 1, 2, 5] rfl rfl a h)) hk hc9) (vx_cwSW 4 hts (gT_in gQ_L_knows_89) rfl rfl rfl (by decide +kernel) hR) ⟨lP_blind, lP_ok (A := A) (va_P.app (va_P.app (va_P.app (va_P.app he9 hb9) hs9) hu9) hk9) hK hF hC hS hN⟩ rfl rfl hsz rfl (lv_room hroom) hdg hcl) (va_P.app hr9 hW) (gC_T hG [4, 0, 1, 2, 5, 3, 6] rfl rfl) (fun q h => mem_vA h) (fun q h => mem_vA h) (gC_N hG [4, 0, 1, 2, 5] rfl rfl) hA hS (fun r7 v7 H1 locs1 hp hP hO hS1 => ?_)
  rw [hF_of hf] at hp
  obtain ⟨rfl, rfl⟩ := Prod.mk.inj hp
  have nhk9 := va_P_suf hP
  have thP4 := va_P_pre hP
  have nhu9 := va_P_suf thP4
  have thP3 := va_P_pre thP4
  have nhs9 := va_P_suf thP3
  have thP2 := va_P_pre thP3
  have nhb9 := va_P_suf thP2
  have thP1 := va_P_pre thP2
  have nhe9 := thP1
  have nhW := va_P_suf hO
  have thO1 := va_P_pre hO
  have nhr9 := thO1
  exact kk9 H1 locs1 ⟨nhb9, nhs9, nhu9, nhr9, nhe9, nhk9⟩ nhW hS1
set_option maxHeartbeats 4000000 in
set_option maxRecDepth 100000 in
theorem w_clicks {l : Launch} (hfl : l.stackTraces = false) {dC : Nat → ClassId} {dI : Nat → Nat → Nat} {cI cB cO cL : ClassId} {N0 : Nat} {sT eA qb qs qu qr qe qk qx qd : Nat → Nat} {b : BS} {s9 : SS} {u : US} {tr te : TS} {kk : Int32} {wo : va_W} {p : Program} {e : Env} {R : Room} {s : State} {m : MethodId} {args : Array Value} {below : List Frame} {meth : Method} {c : Code} {H H0 : Heap} {locs : List Loc} {cells slots : Nat} {Q : State → Prop} {pc nL : Nat} {ls : Array Slot} {rest : List Value} {A : Nat → Prop} {cc : ByteArray} {cw9 : Cond}
    (hx : p.tables.exec = Jvm.exec) (hb : c.code = cc) (hml : c.maxLocals = nL) (hown : s.vm.findClass RL = some m.cls) (hts : ∀ w ∈ cw9 :: gT, w.before args s = true) (hK : va_K (dC, dI) vwCl (tYS cI cB cO cL) s) (hF : eF N0 sT eA s s.heap) (hC : nC s) (hN : ∀ q, A q → N0 ≤ q) (hG : gC A (cpT qb qs qu qr qe qk (wo.map Prod.fst))) (hA : ∀ q, H0.size ≤ q → A q) (hH : s.heap = H0) (hN0 : N0 ≤ H0.size)
    (hS : va_S A H0 H locs) (hI : OI (dC, dI) cI cB qb qs qu qr qe qk qx qd kk (b, s9, u, tr, te) H) (hW : va_P (dC, dI) vwCl wo H) {a1 a2 a3 : Int32} {c9 : Nat} {r9 : Int32} {te' : TS} {b' : BS} {s9' : SS} {u' : US} (hf : pX11_click te b s9 u kk a1 a2 a3 = (c9, (r9, (te', b', s9', u', kk)))) (hk : kX11_click te b s9 u kk a1 a2 a3) (hc : c9 = 0 ∨ c9 = 2 ∨ c9 = 3)
    (hR : rL_clicks.frames + 1 ≤ R.frames ∧ 8 + (5 + 11) + rL_clicks.locals ≤ R.locals) (v9 : Int32) (hv9 : rv c9 r9 = v9) (hroom : (rest.map fun v => v.category).sum ≤ 8) (hsz : ls.size = nL) (hdg : decode cc pc = .ok (.invokestatic 92, 3)) (hcl : cells + 4 ≤ R.cells ∧ slots + 24 ≤ R.slots)
    (kk9 : ∀ (H1 : Heap) (locs1 : List Loc), OI (dC, dI) cI cB qb qs qu qr qe qk qx qd kk (b', s9', u', tr, te') H1 → va_P (dC, dI) vwCl wo H1 → va_S A H0 H1 locs1 → W p l e R s m args below meth c H1 locs1 (cells + 4) (slots + 24) Q (F0 m (pc + 3) ls (.int v9 :: rest))) : W p l e R s m args below meth c H locs cells slots Q (F0 m pc ls (.int a3 :: .int a2 :: .int a1 :: .ref (qk 0) :: rest)) := by
  obtain ⟨hb9, hs9, hu9, hr9, he9, hk9⟩ := hI
  subst hH hv9
  have hc9 : (pX11_click te b s9 u kk a1 a2 a3).1 = 0 ∨ (pX11_click te b s9 u kk a1 a2 a3).1 = 2 ∨ (pX11_click te b s9 u kk a1 a2 a3).1 = 3 := by rw [hf]; exact hc
  refine i_call (H0 := s.heap) (Wd := (fun z9 : TS × BS × SS × US × Int32 => ew qe cI z9.1 ++ bw qb cI z9.2.1 ++ sw qs cI z9.2.2.1 ++ uw qu cI cB z9.2.2.2.1 ++ kw qk qb qr qe qs qu qx qd cI z9.2.2.2.2)) (w0 := ew qe cI te ++ bw qb cI b ++ sw qs cI s9 ++ uw qu cI cB u ++ kw qk qb qr qe qs qu qx qd cI kk) (wo := aw qr cI tr ++ wo) (vx_runSW (mc := 4) (ms := 24) (As := [.ref (qk 0), .int a1, .int a2, .int a3]) (rest := rest) ⟨hx, hb, hml, hown, hts⟩ (mL_clicks l hfl dC dI cI cB cO cL N0 sT eA qe qb qs qu qk qr qx qd te b s9 u kk a1 a2 a3 H.size (Nat.le_trans hN0 hS.1) (gC_T hG [4, 0, 1, 2, 5] rfl rfl) (fun a h => hN a (gC_N hG [4, 0, 1, 2, 5] rfl rfl a h)) hk hc9) (vx_cwSW 4 hts (gT_in gQ_L_clicks_92) rfl rfl rfl (by decide +kernel) hR) ⟨lP_blind, lP_ok (A := A) (va_P.app (va_P.app (va_P.app (va_P.app he9 hb9) hs9) hu9) hk9) hK hF hC hS hN⟩ rfl rfl hsz rfl (lv_room hroom) hdg hcl) (va_P.app hr9 hW) (gC_T hG [4, 0, 1, 2, 5, 3, 6] rfl rfl) (fun q h => mem_vA h) (fun q h => mem_vA h) (gC_N hG [4, 0, 1, 2, 5] rfl rfl) hA hS (fun r7 v7 H1 locs1 hp hP hO hS1 => ?_)
  rw [hF_of hf] at hp
  obtain ⟨rfl, rfl⟩ := Prod.mk.inj hp
  have nhk9 := va_P_suf hP
  have thP4 := va_P_pre hP
  have nhu9 := va_P_suf thP4
  have thP3 := va_P_pre thP4
  have nhs9 := va_P_suf thP3
  have thP2 := va_P_pre thP3
  have nhb9 := va_P_suf thP2
  have thP1 := va_P_pre thP2
  have nhe9 := thP1
  have nhW := va_P_suf hO
  have thO1 := va_P_pre hO
  have nhr9 := thO1
  exact kk9 H1 locs1 ⟨nhb9, nhs9, nhu9, nhr9, nhe9, nhk9⟩ nhW hS1
set_option maxHeartbeats 4000000 in
set_option maxRecDepth 100000 in
theorem w_noteOf {l : Launch} (hfl : l.stackTraces = false) {dC : Nat → ClassId} {dI : Nat → Nat → Nat} {cI cB cO cL : ClassId} {N0 : Nat} {sT eA qb qs qu qr qe qk qx qd : Nat → Nat} {b : BS} {s9 : SS} {u : US} {tr te : TS} {kk : Int32} {wo : va_W} {p : Program} {e : Env} {R : Room} {s : State} {m : MethodId} {args : Array Value} {below : List Frame} {meth : Method} {c : Code} {H H0 : Heap} {locs : List Loc} {cells slots : Nat} {Q : State → Prop} {pc nL : Nat} {ls : Array Slot} {rest : List Value} {A : Nat → Prop} {cc : ByteArray} {cw9 : Cond}
    (hx : p.tables.exec = Jvm.exec) (hb : c.code = cc) (hml : c.maxLocals = nL) (hown : s.vm.findClass RL = some m.cls) (hts : ∀ w ∈ cw9 :: gT, w.before args s = true) (hK : va_K (dC, dI) vwCl (tYS cI cB cO cL) s) (hF : eF N0 sT eA s s.heap) (hC : nC s) (hN : ∀ q, A q → N0 ≤ q) (hG : gC A (cpT qb qs qu qr qe qk (wo.map Prod.fst))) (hA : ∀ q, H0.size ≤ q → A q) (hH : s.heap = H0) (hN0 : N0 ≤ H0.size)
    (hS : va_S A H0 H locs) (hI : OI (dC, dI) cI cB qb qs qu qr qe qk qx qd kk (b, s9, u, tr, te) H) (hW : va_P (dC, dI) vwCl wo H) {a1 : Int32} {c9 : Nat} {r9 : Int32} {b' : BS} (hf : pX11_note b kk a1 = (c9, (r9, (b', kk)))) (hk : kX11_note b kk a1) (hc : c9 = 0 ∨ c9 = 1)
    (hR : rL_noteOf.frames + 1 ≤ R.frames ∧ 8 + (3 + 11) + rL_noteOf.locals ≤ R.locals) (v9 : Int32) (hv9 : rv c9 r9 = v9) (hroom : (rest.map fun v => v.category).sum ≤ 8) (hsz : ls.size = nL) (hdg : decode cc pc = .ok (.invokestatic 168, 3)) (hcl : cells + 4 ≤ R.cells ∧ slots + 24 ≤ R.slots)
    (kk9 : ∀ (H1 : Heap) (locs1 : List Loc), OI (dC, dI) cI cB qb qs qu qr qe qk qx qd kk (b', s9, u, tr, te) H1 → va_P (dC, dI) vwCl wo H1 → va_S A H0 H1 locs1 → W p l e R s m args below meth c H1 locs1 (cells + 4) (slots + 24) Q (F0 m (pc + 3) ls (.int v9 :: rest))) : W p l e R s m args below meth c H locs cells slots Q (F0 m pc ls (.int a1 :: .ref (qk 0) :: rest)) := by
  obtain ⟨hb9, hs9, hu9, hr9, he9, hk9⟩ := hI
  subst hH hv9
  have hc9 : (pX11_note b kk a1).1 = 0 ∨ (pX11_note b kk a1).1 = 1 := by rw [hf]; exact hc
  refine i_call (H0 := s.heap) (Wd := (fun z9 : BS × Int32 => bw qb cI z9.1 ++ kw qk qb qr qe qs qu qx qd cI z9.2)) (w0 := bw qb cI b ++ kw qk qb qr qe qs qu qx qd cI kk) (wo := sw qs cI s9 ++ uw qu cI cB u ++ aw qr cI tr ++ ew qe cI te ++ wo) (vx_runSW (mc := 4) (ms := 24) (As := [.ref (qk 0), .int a1]) (rest := rest) ⟨hx, hb, hml, hown, hts⟩ (mL_noteOf l hfl dC dI cI cB cO cL N0 sT eA qb qk qr qe qs qu qx qd b kk a1 H.size (Nat.le_trans hN0 hS.1) (gC_T hG [0, 5] rfl rfl) (fun a h => hN a (gC_N hG [0, 5] rfl rfl a h)) hk hc9) (vx_cwSW 2 hts (gT_in gQ_L_noteOf_168) rfl rfl rfl (by decide +kernel) hR) ⟨lP_blind, lP_ok (A := A) (va_P.app hb9 hk9) hK hF hC hS hN⟩ rfl rfl hsz rfl (lv_room hroom) hdg hcl) (va_P.app (va_P.app (va_P.app (va_P.app hs9 hu9) hr9) he9) hW) (gC_T hG [0, 5, 1, 2, 3, 4, 6] rfl rfl) (fun q h => mem_vA h) (fun q h => mem_vA h) (gC_N hG [0, 5] rfl rfl) hA hS (fun r7 v7 H1 locs1 hp hP hO hS1 => ?_)
  rw [hF_of hf] at hp
  obtain ⟨rfl, rfl⟩ := Prod.mk.inj hp
  have nhk9 := va_P_suf hP
  have thP1 := va_P_pre hP
  have nhb9 := thP1
  have nhW := va_P_suf hO
  have thO4 := va_P_pre hO
  have nhe9 := va_P_suf thO4
  have thO3 := va_P_pre thO4
  have nhr9 := va_P_suf thO3
  have thO2 := va_P_pre thO3
  have nhu9 := va_P_suf thO2
  have thO1 := va_P_pre thO2
  have nhs9 := thO1
  exact kk9 H1 locs1 ⟨nhb9, nhs9, nhu9, nhr9, nhe9, nhk9⟩ nhW hS1
set_option maxHeartbeats 4000000 in
set_option maxRecDepth 100000 in
theorem w_heardOf {l : Launch} (hfl : l.stackTraces = false) {dC : Nat → ClassId} {dI : Nat → Nat → Nat} {cI cB cO cL : ClassId} {N0 : Nat} {sT eA qb qs qu qr qe qk qx qd : Nat → Nat} {b : BS} {s9 : SS} {u : US} {tr te : TS} {kk : Int32} {wo : va_W} {p : Program} {e : Env} {R : Room} {s : State} {m : MethodId} {args : Array Value} {below : List Frame} {meth : Method} {c : Code} {H H0 : Heap} {locs : List Loc} {cells slots : Nat} {Q : State → Prop} {pc nL : Nat} {ls : Array Slot} {rest : List Value} {A : Nat → Prop} {cc : ByteArray} {cw9 : Cond}
    (hx : p.tables.exec = Jvm.exec) (hb : c.code = cc) (hml : c.maxLocals = nL) (hown : s.vm.findClass RL = some m.cls) (hts : ∀ w ∈ cw9 :: gT, w.before args s = true) (hK : va_K (dC, dI) vwCl (tYS cI cB cO cL) s) (hF : eF N0 sT eA s s.heap) (hC : nC s) (hN : ∀ q, A q → N0 ≤ q) (hG : gC A (cpT qb qs qu qr qe qk (wo.map Prod.fst))) (hA : ∀ q, H0.size ≤ q → A q) (hH : s.heap = H0) (hN0 : N0 ≤ H0.size)
    (hS : va_S A H0 H locs) (hI : OI (dC, dI) cI cB qb qs qu qr qe qk qx qd kk (b, s9, u, tr, te) H) (hW : va_P (dC, dI) vwCl wo H) {a1 a2 : Int32} {c9 : Nat} {r9 : Int32} {b' : BS} (hf : pX11_heard b kk a1 a2 = (c9, (r9, (b', kk)))) (hk : kX11_heard b kk a1 a2) (hc : c9 = 0 ∨ c9 = 1 ∨ c9 = 2)
    (hR : rL_heardOf.frames + 1 ≤ R.frames ∧ 8 + (4 + 11) + rL_heardOf.locals ≤ R.locals) (v9 : Int32) (hv9 : rv c9 r9 = v9) (hroom : (rest.map fun v => v.category).sum ≤ 8) (hsz : ls.size = nL) (hdg : decode cc pc = .ok (.invokestatic 174, 3)) (hcl : cells + 4 ≤ R.cells ∧ slots + 24 ≤ R.slots)
    (kk9 : ∀ (H1 : Heap) (locs1 : List Loc), OI (dC, dI) cI cB qb qs qu qr qe qk qx qd kk (b', s9, u, tr, te) H1 → va_P (dC, dI) vwCl wo H1 → va_S A H0 H1 locs1 → W p l e R s m args below meth c H1 locs1 (cells + 4) (slots + 24) Q (F0 m (pc + 3) ls (.int v9 :: rest))) : W p l e R s m args below meth c H locs cells slots Q (F0 m pc ls (.int a2 :: .int a1 :: .ref (qk 0) :: rest)) := by
  obtain ⟨hb9, hs9, hu9, hr9, he9, hk9⟩ := hI
  subst hH hv9
  have hc9 : (pX11_heard b kk a1 a2).1 = 0 ∨ (pX11_heard b kk a1 a2).1 = 1 ∨ (pX11_heard b kk a1 a2).1 = 2 := by rw [hf]; exact hc
  refine i_call (H0 := s.heap) (Wd := (fun z9 : BS × Int32 => bw qb cI z9.1 ++ kw qk qb qr qe qs qu qx qd cI z9.2)) (w0 := bw qb cI b ++ kw qk qb qr qe qs qu qx qd cI kk) (wo := sw qs cI s9 ++ uw qu cI cB u ++ aw qr cI tr ++ ew qe cI te ++ wo) (vx_runSW (mc := 4) (ms := 24) (As := [.ref (qk 0), .int a1, .int a2]) (rest := rest) ⟨hx, hb, hml, hown, hts⟩ (mL_heardOf l hfl dC dI cI cB cO cL N0 sT eA qb qk qr qe qs qu qx qd b kk a1 a2 H.size (Nat.le_trans hN0 hS.1) (gC_T hG [0, 5] rfl rfl) (fun a h => hN a (gC_N hG [0, 5] rfl rfl a h)) hk hc9) (vx_cwSW 3 hts (gT_in gQ_L_heardOf_174) rfl rfl rfl (by decide +kernel) hR) ⟨lP_blind, lP_ok (A := A) (va_P.app hb9 hk9) hK hF hC hS hN⟩ rfl rfl hsz rfl (lv_room hroom) hdg hcl) (va_P.app (va_P.app (va_P.app (va_P.app hs9 hu9) hr9) he9) hW) (gC_T hG [0, 5, 1, 2, 3, 4, 6] rfl rfl) (fun q h => mem_vA h) (fun q h => mem_vA h) (gC_N hG [0, 5] rfl rfl) hA hS (fun r7 v7 H1 locs1 hp hP hO hS1 => ?_)
  rw [hF_of hf] at hp
  obtain ⟨rfl, rfl⟩ := Prod.mk.inj hp
  have nhk9 := va_P_suf hP
  have thP1 := va_P_pre hP
  have nhb9 := thP1
  have nhW := va_P_suf hO
  have thO4 := va_P_pre hO
  have nhe9 := va_P_suf thO4
  have thO3 := va_P_pre thO4
  have nhr9 := va_P_suf thO3
  have thO2 := va_P_pre thO3
  have nhu9 := va_P_suf thO2
  have thO1 := va_P_pre thO2
  have nhs9 := thO1
  exact kk9 H1 locs1 ⟨nhb9, nhs9, nhu9, nhr9, nhe9, nhk9⟩ nhW hS1
set_option maxHeartbeats 4000000 in
set_option maxRecDepth 100000 in
theorem w_manyAt {l : Launch} (hfl : l.stackTraces = false) {dC : Nat → ClassId} {dI : Nat → Nat → Nat} {cI cB cO cL : ClassId} {N0 : Nat} {sT eA qb qs qu qr qe qk qx qd : Nat → Nat} {b : BS} {s9 : SS} {u : US} {tr te : TS} {kk : Int32} {wo : va_W} {p : Program} {e : Env} {R : Room} {s : State} {m : MethodId} {args : Array Value} {below : List Frame} {meth : Method} {c : Code} {H H0 : Heap} {locs : List Loc} {cells slots : Nat} {Q : State → Prop} {pc nL : Nat} {ls : Array Slot} {rest : List Value} {A : Nat → Prop} {cc : ByteArray} {cw9 : Cond}
    (hx : p.tables.exec = Jvm.exec) (hb : c.code = cc) (hml : c.maxLocals = nL) (hown : s.vm.findClass RL = some m.cls) (hts : ∀ w ∈ cw9 :: gT, w.before args s = true) (hK : va_K (dC, dI) vwCl (tYS cI cB cO cL) s) (hF : eF N0 sT eA s s.heap) (hC : nC s) (hN : ∀ q, A q → N0 ≤ q) (hG : gC A (cpT qb qs qu qr qe qk (wo.map Prod.fst))) (hA : ∀ q, H0.size ≤ q → A q) (hH : s.heap = H0) (hN0 : N0 ≤ H0.size)
    (hS : va_S A H0 H locs) (hI : OI (dC, dI) cI cB qb qs qu qr qe qk qx qd kk (b, s9, u, tr, te) H) (hW : va_P (dC, dI) vwCl wo H) {a1 a2 a3 : Int32} {c9 : Nat} {r9 : Int32} {tr' : TS} {b' : BS} (hf : pX11_arrivals tr b kk a1 a2 a3 = (c9, (r9, (tr', b', kk)))) (hk : kX11_arrivals tr b kk a1 a2 a3) (hc : c9 = 0 ∨ c9 = 1 ∨ c9 = 2)
    (hR : rL_manyAt.frames + 1 ≤ R.frames ∧ 8 + (5 + 11) + rL_manyAt.locals ≤ R.locals) (v9 : Int32) (hv9 : rv c9 r9 = v9) (hroom : (rest.map fun v => v.category).sum ≤ 8) (hsz : ls.size = nL) (hdg : decode cc pc = .ok (.invokestatic 177, 3)) (hcl : cells + 4 ≤ R.cells ∧ slots + 24 ≤ R.slots)
    (kk9 : ∀ (H1 : Heap) (locs1 : List Loc), OI (dC, dI) cI cB qb qs qu qr qe qk qx qd kk (b', s9, u, tr', te) H1 → va_P (dC, dI) vwCl wo H1 → va_S A H0 H1 locs1 → W p l e R s m args below meth c H1 locs1 (cells + 4) (slots + 24) Q (F0 m (pc + 3) ls (.int v9 :: rest))) : W p l e R s m args below meth c H locs cells slots Q (F0 m pc ls (.int a3 :: .int a2 :: .int a1 :: .ref (qk 0) :: rest)) := by
  obtain ⟨hb9, hs9, hu9, hr9, he9, hk9⟩ := hI
  subst hH hv9
  have hc9 : (pX11_arrivals tr b kk a1 a2 a3).1 = 0 ∨ (pX11_arrivals tr b kk a1 a2 a3).1 = 1 ∨ (pX11_arrivals tr b kk a1 a2 a3).1 = 2 := by rw [hf]; exact hc
  refine i_call (H0 := s.heap) (Wd := (fun z9 : TS × BS × Int32 => aw qr cI z9.1 ++ bw qb cI z9.2.1 ++ kw qk qb qr qe qs qu qx qd cI z9.2.2)) (w0 := aw qr cI tr ++ bw qb cI b ++ kw qk qb qr qe qs qu qx qd cI kk) (wo := sw qs cI s9 ++ uw qu cI cB u ++ ew qe cI te ++ wo) (vx_runSW (mc := 4) (ms := 24) (As := [.ref (qk 0), .int a1, .int a2, .int a3]) (rest := rest) ⟨hx, hb, hml, hown, hts⟩ (mL_manyAt l hfl dC dI cI cB cO cL N0 sT eA qr qb qk qe qs qu qx qd tr b kk a1 a2 a3 H.size (Nat.le_trans hN0 hS.1) (gC_T hG [3, 0, 5] rfl rfl) (fun a h => hN a (gC_N hG [3, 0, 5] rfl rfl a h)) hk hc9) (vx_cwSW 4 hts (gT_in gQ_L_manyAt_177) rfl rfl rfl (by decide +kernel) hR) ⟨lP_blind, lP_ok (A := A) (va_P.app (va_P.app hr9 hb9) hk9) hK hF hC hS hN⟩ rfl rfl hsz rfl (lv_room hroom) hdg hcl) (va_P.app (va_P.app (va_P.app hs9 hu9) he9) hW) (gC_T hG [3, 0, 5, 1, 2, 4, 6] rfl rfl) (fun q h => mem_vA h) (fun q h => mem_vA h) (gC_N hG [3, 0, 5] rfl rfl) hA hS (fun r7 v7 H1 locs1 hp hP hO hS1 => ?_)
  rw [hF_of hf] at hp
  obtain ⟨rfl, rfl⟩ := Prod.mk.inj hp
  have nhk9 := va_P_suf hP
  have thP2 := va_P_pre hP
  have nhb9 := va_P_suf thP2
  have thP1 := va_P_pre thP2
  have nhr9 := thP1
  have nhW := va_P_suf hO
  have thO3 := va_P_pre hO
  have nhe9 := va_P_suf thO3
  have thO2 := va_P_pre thO3
  have nhu9 := va_P_suf thO2
  have thO1 := va_P_pre thO2
  have nhs9 := thO1
  exact kk9 H1 locs1 ⟨nhb9, nhs9, nhu9, nhr9, nhe9, nhk9⟩ nhW hS1
set_option maxHeartbeats 4000000 in
set_option maxRecDepth 100000 in
theorem w_atOf {l : Launch} (hfl : l.stackTraces = false) {dC : Nat → ClassId} {dI : Nat → Nat → Nat} {cI cB cO cL : ClassId} {N0 : Nat} {sT eA qb qs qu qr qe qk qx qd : Nat → Nat} {b : BS} {s9 : SS} {u : US} {tr te : TS} {kk : Int32} {wo : va_W} {p : Program} {e : Env} {R : Room} {s : State} {m : MethodId} {args : Array Value} {below : List Frame} {meth : Method} {c : Code} {H H0 : Heap} {locs : List Loc} {cells slots : Nat} {Q : State → Prop} {pc nL : Nat} {ls : Array Slot} {rest : List Value} {A : Nat → Prop} {cc : ByteArray} {cw9 : Cond}
    (hx : p.tables.exec = Jvm.exec) (hb : c.code = cc) (hml : c.maxLocals = nL) (hown : s.vm.findClass RL = some m.cls) (hts : ∀ w ∈ cw9 :: gT, w.before args s = true) (hK : va_K (dC, dI) vwCl (tYS cI cB cO cL) s) (hF : eF N0 sT eA s s.heap) (hC : nC s) (hN : ∀ q, A q → N0 ≤ q) (hG : gC A (cpT qb qs qu qr qe qk (wo.map Prod.fst))) (hA : ∀ q, H0.size ≤ q → A q) (hH : s.heap = H0) (hN0 : N0 ≤ H0.size)
    (hS : va_S A H0 H locs) (hI : OI (dC, dI) cI cB qb qs qu qr qe qk qx qd kk (b, s9, u, tr, te) H) (hW : va_P (dC, dI) vwCl wo H) {a1 a2 a3 a4 a5 : Int32} {c9 : Nat} {r9 : Int32} {tr' : TS} {b' : BS} (hf : pX11_arrival tr b kk a1 a2 a3 a4 a5 = (c9, (r9, (tr', b', kk)))) (hk : kX11_arrival tr b kk a1 a2 a3 a4 a5) (hc : c9 = 0 ∨ c9 = 1 ∨ c9 = 2)
    (hR : rL_atOf.frames + 1 ≤ R.frames ∧ 8 + (7 + 11) + rL_atOf.locals ≤ R.locals) (v9 : Int32) (hv9 : rv c9 r9 = v9) (hroom : (rest.map fun v => v.category).sum ≤ 8) (hsz : ls.size = nL) (hdg : decode cc pc = .ok (.invokestatic 180, 3)) (hcl : cells + 4 ≤ R.cells ∧ slots + 24 ≤ R.slots)
    (kk9 : ∀ (H1 : Heap) (locs1 : List Loc), OI (dC, dI) cI cB qb qs qu qr qe qk qx qd kk (b', s9, u, tr', te) H1 → va_P (dC, dI) vwCl wo H1 → va_S A H0 H1 locs1 → W p l e R s m args below meth c H1 locs1 (cells + 4) (slots + 24) Q (F0 m (pc + 3) ls (.int v9 :: rest))) : W p l e R s m args below meth c H locs cells slots Q (F0 m pc ls (.int a5 :: .int a4 :: .int a3 :: .int a2 :: .int a1 :: .ref (qk 0) :: rest)) := by
  obtain ⟨hb9, hs9, hu9, hr9, he9, hk9⟩ := hI
  subst hH hv9
  have hc9 : (pX11_arrival tr b kk a1 a2 a3 a4 a5).1 = 0 ∨ (pX11_arrival tr b kk a1 a2 a3 a4 a5).1 = 1 ∨ (pX11_arrival tr b kk a1 a2 a3 a4 a5).1 = 2 := by rw [hf]; exact hc
  refine i_call (H0 := s.heap) (Wd := (fun z9 : TS × BS × Int32 => aw qr cI z9.1 ++ bw qb cI z9.2.1 ++ kw qk qb qr qe qs qu qx qd cI z9.2.2)) (w0 := aw qr cI tr ++ bw qb cI b ++ kw qk qb qr qe qs qu qx qd cI kk) (wo := sw qs cI s9 ++ uw qu cI cB u ++ ew qe cI te ++ wo) (vx_runSW (mc := 4) (ms := 24) (As := [.ref (qk 0), .int a1, .int a2, .int a3, .int a4, .int a5]) (rest := rest) ⟨hx, hb, hml, hown, hts⟩ (mL_atOf l hfl dC dI cI cB cO cL N0 sT eA qr qb qk qe qs qu qx qd tr b kk a1 a2 a3 a4 a5 H.size (Nat.le_trans hN0 hS.1) (gC_T hG [3, 0, 5] rfl rfl) (fun a h => hN a (gC_N hG [3, 0, 5] rfl rfl a h)) hk hc9) (vx_cwSW 6 hts (gT_in gQ_L_atOf_180) rfl rfl rfl (by decide +kernel) hR) ⟨lP_blind, lP_ok (A := A) (va_P.app (va_P.app hr9 hb9) hk9) hK hF hC hS hN⟩ rfl rfl hsz rfl (lv_room hroom) hdg hcl) (va_P.app (va_P.app (va_P.app hs9 hu9) he9) hW) (gC_T hG [3, 0, 5, 1, 2, 4, 6] rfl rfl) (fun q h => mem_vA h) (fun q h => mem_vA h) (gC_N hG [3, 0, 5] rfl rfl) hA hS (fun r7 v7 H1 locs1 hp hP hO hS1 => ?_)
  rw [hF_of hf] at hp
  obtain ⟨rfl, rfl⟩ := Prod.mk.inj hp
  have nhk9 := va_P_suf hP
  have thP2 := va_P_pre hP
  have nhb9 := va_P_suf thP2
  have thP1 := va_P_pre thP2
  have nhr9 := thP1
  have nhW := va_P_suf hO
  have thO3 := va_P_pre hO
  have nhe9 := va_P_suf thO3
  have thO2 := va_P_pre thO3
  have nhu9 := va_P_suf thO2
  have thO1 := va_P_pre thO2
  have nhs9 := thO1
  exact kk9 H1 locs1 ⟨nhb9, nhs9, nhu9, nhr9, nhe9, nhk9⟩ nhW hS1
set_option maxHeartbeats 4000000 in
set_option maxRecDepth 100000 in
theorem w_delayOf {l : Launch} (hfl : l.stackTraces = false) {dC : Nat → ClassId} {dI : Nat → Nat → Nat} {cI cB cO cL : ClassId} {N0 : Nat} {sT eA qb qs qu qr qe qk qx qd : Nat → Nat} {b : BS} {s9 : SS} {u : US} {tr te : TS} {kk : Int32} {wo : va_W} {p : Program} {e : Env} {R : Room} {s : State} {m : MethodId} {args : Array Value} {below : List Frame} {meth : Method} {c : Code} {H H0 : Heap} {locs : List Loc} {cells slots : Nat} {Q : State → Prop} {pc nL : Nat} {ls : Array Slot} {rest : List Value} {A : Nat → Prop} {cc : ByteArray} {cw9 : Cond}
    (hx : p.tables.exec = Jvm.exec) (hb : c.code = cc) (hml : c.maxLocals = nL) (hown : s.vm.findClass RL = some m.cls) (hts : ∀ w ∈ cw9 :: gT, w.before args s = true) (hK : va_K (dC, dI) vwCl (tYS cI cB cO cL) s) (hF : eF N0 sT eA s s.heap) (hC : nC s) (hN : ∀ q, A q → N0 ≤ q) (hG : gC A (cpT qb qs qu qr qe qk (wo.map Prod.fst))) (hA : ∀ q, H0.size ≤ q → A q) (hH : s.heap = H0) (hN0 : N0 ≤ H0.size)
    (hS : va_S A H0 H locs) (hI : OI (dC, dI) cI cB qb qs qu qr qe qk qx qd kk (b, s9, u, tr, te) H) (hW : va_P (dC, dI) vwCl wo H) {a1 a2 : Int32} {c9 : Nat} {r9 : Int32} {b' : BS} (hf : pX11_delay b kk a1 a2 = (c9, (r9, (b', kk)))) (hk : kX11_delay b kk a1 a2) (hc : c9 = 0 ∨ c9 = 1 ∨ c9 = 2)
    (hR : rL_delayOf.frames + 1 ≤ R.frames ∧ 8 + (4 + 11) + rL_delayOf.locals ≤ R.locals) (v9 : Int32) (hv9 : rv c9 r9 = v9) (hroom : (rest.map fun v => v.category).sum ≤ 8) (hsz : ls.size = nL) (hdg : decode cc pc = .ok (.invokestatic 171, 3)) (hcl : cells + 4 ≤ R.cells ∧ slots + 24 ≤ R.slots)
    (kk9 : ∀ (H1 : Heap) (locs1 : List Loc), OI (dC, dI) cI cB qb qs qu qr qe qk qx qd kk (b', s9, u, tr, te) H1 → va_P (dC, dI) vwCl wo H1 → va_S A H0 H1 locs1 → W p l e R s m args below meth c H1 locs1 (cells + 4) (slots + 24) Q (F0 m (pc + 3) ls (.int v9 :: rest))) : W p l e R s m args below meth c H locs cells slots Q (F0 m pc ls (.int a2 :: .int a1 :: .ref (qk 0) :: rest)) := by
  obtain ⟨hb9, hs9, hu9, hr9, he9, hk9⟩ := hI
  subst hH hv9
  have hc9 : (pX11_delay b kk a1 a2).1 = 0 ∨ (pX11_delay b kk a1 a2).1 = 1 ∨ (pX11_delay b kk a1 a2).1 = 2 := by rw [hf]; exact hc
  refine i_call (H0 := s.heap) (Wd := (fun z9 : BS × Int32 => bw qb cI z9.1 ++ kw qk qb qr qe qs qu qx qd cI z9.2)) (w0 := bw qb cI b ++ kw qk qb qr qe qs qu qx qd cI kk) (wo := sw qs cI s9 ++ uw qu cI cB u ++ aw qr cI tr ++ ew qe cI te ++ wo) (vx_runSW (mc := 4) (ms := 24) (As := [.ref (qk 0), .int a1, .int a2]) (rest := rest) ⟨hx, hb, hml, hown, hts⟩ (mL_delayOf l hfl dC dI cI cB cO cL N0 sT eA qb qk qr qe qs qu qx qd b kk a1 a2 H.size (Nat.le_trans hN0 hS.1) (gC_T hG [0, 5] rfl rfl) (fun a h => hN a (gC_N hG [0, 5] rfl rfl a h)) hk hc9) (vx_cwSW 3 hts (gT_in gQ_L_delayOf_171) rfl rfl rfl (by decide +kernel) hR) ⟨lP_blind, lP_ok (A := A) (va_P.app hb9 hk9) hK hF hC hS hN⟩ rfl rfl hsz rfl (lv_room hroom) hdg hcl) (va_P.app (va_P.app (va_P.app (va_P.app hs9 hu9) hr9) he9) hW) (gC_T hG [0, 5, 1, 2, 3, 4, 6] rfl rfl) (fun q h => mem_vA h) (fun q h => mem_vA h) (gC_N hG [0, 5] rfl rfl) hA hS (fun r7 v7 H1 locs1 hp hP hO hS1 => ?_)
  rw [hF_of hf] at hp
  obtain ⟨rfl, rfl⟩ := Prod.mk.inj hp
  have nhk9 := va_P_suf hP
  have thP1 := va_P_pre hP
  have nhb9 := thP1
  have nhW := va_P_suf hO
  have thO4 := va_P_pre hO
  have nhe9 := va_P_suf thO4
  have thO3 := va_P_pre thO4
  have nhr9 := va_P_suf thO3
  have thO2 := va_P_pre thO3
  have nhu9 := va_P_suf thO2
  have thO1 := va_P_pre thO2
  have nhs9 := thO1
  exact kk9 H1 locs1 ⟨nhb9, nhs9, nhu9, nhr9, nhe9, nhk9⟩ nhW hS1
set_option maxHeartbeats 4000000 in
set_option maxRecDepth 100000 in
theorem w_wholeOf {l : Launch} (hfl : l.stackTraces = false) {dC : Nat → ClassId} {dI : Nat → Nat → Nat} {cI cB cO cL : ClassId} {N0 : Nat} {sT eA qb qs qu qr qe qk qx qd : Nat → Nat} {b : BS} {s9 : SS} {u : US} {tr te : TS} {kk : Int32} {wo : va_W} {p : Program} {e : Env} {R : Room} {s : State} {m : MethodId} {args : Array Value} {below : List Frame} {meth : Method} {c : Code} {H H0 : Heap} {locs : List Loc} {cells slots : Nat} {Q : State → Prop} {pc nL : Nat} {ls : Array Slot} {rest : List Value} {A : Nat → Prop} {cc : ByteArray} {cw9 : Cond}
    (hx : p.tables.exec = Jvm.exec) (hb : c.code = cc) (hml : c.maxLocals = nL) (hown : s.vm.findClass RL = some m.cls) (hts : ∀ w ∈ cw9 :: gT, w.before args s = true) (hK : va_K (dC, dI) vwCl (tYS cI cB cO cL) s) (hF : eF N0 sT eA s s.heap) (hC : nC s) (hN : ∀ q, A q → N0 ≤ q) (hG : gC A (cpT qb qs qu qr qe qk (wo.map Prod.fst))) (hA : ∀ q, H0.size ≤ q → A q) (hH : s.heap = H0) (hN0 : N0 ≤ H0.size)
    (hS : va_S A H0 H locs) (hI : OI (dC, dI) cI cB qb qs qu qr qe qk qx qd kk (b, s9, u, tr, te) H) (hW : va_P (dC, dI) vwCl wo H) {a1 : Int32} {c9 : Nat} {r9 : Int32} {s9' : SS} {b' : BS} (hf : pX11_whole s9 b kk a1 = (c9, (r9, (s9', b', kk)))) (hk : kX11_whole s9 b kk a1) (hc : c9 = 0 ∨ c9 = 2)
    (hR : rL_wholeOf.frames + 1 ≤ R.frames ∧ 8 + (3 + 11) + rL_wholeOf.locals ≤ R.locals) (v9 : Int32) (hv9 : rv c9 r9 = v9) (hroom : (rest.map fun v => v.category).sum ≤ 8) (hsz : ls.size = nL) (hdg : decode cc pc = .ok (.invokestatic 162, 3)) (hcl : cells + 4 ≤ R.cells ∧ slots + 24 ≤ R.slots)
    (kk9 : ∀ (H1 : Heap) (locs1 : List Loc), OI (dC, dI) cI cB qb qs qu qr qe qk qx qd kk (b', s9', u, tr, te) H1 → va_P (dC, dI) vwCl wo H1 → va_S A H0 H1 locs1 → W p l e R s m args below meth c H1 locs1 (cells + 4) (slots + 24) Q (F0 m (pc + 3) ls (.int v9 :: rest))) : W p l e R s m args below meth c H locs cells slots Q (F0 m pc ls (.int a1 :: .ref (qk 0) :: rest)) := by
  obtain ⟨hb9, hs9, hu9, hr9, he9, hk9⟩ := hI
  subst hH hv9
  have hc9 : (pX11_whole s9 b kk a1).1 = 0 ∨ (pX11_whole s9 b kk a1).1 = 2 := by rw [hf]; exact hc
  refine i_call (H0 := s.heap) (Wd := (fun z9 : SS × BS × Int32 => sw qs cI z9.1 ++ bw qb cI z9.2.1 ++ kw qk qb qr qe qs qu qx qd cI z9.2.2)) (w0 := sw qs cI s9 ++ bw qb cI b ++ kw qk qb qr qe qs qu qx qd cI kk) (wo := uw qu cI cB u ++ aw qr cI tr ++ ew qe cI te ++ wo) (vx_runSW (mc := 4) (ms := 24) (As := [.ref (qk 0), .int a1]) (rest := rest) ⟨hx, hb, hml, hown, hts⟩ (mL_wholeOf l hfl dC dI cI cB cO cL N0 sT eA qs qb qk qr qe qu qx qd s9 b kk a1 H.size (Nat.le_trans hN0 hS.1) (gC_T hG [1, 0, 5] rfl rfl) (fun a h => hN a (gC_N hG [1, 0, 5] rfl rfl a h)) hk hc9) (vx_cwSW 2 hts (gT_in gQ_L_wholeOf_162) rfl rfl rfl (by decide +kernel) hR) ⟨lP_blind, lP_ok (A := A) (va_P.app (va_P.app hs9 hb9) hk9) hK hF hC hS hN⟩ rfl rfl hsz rfl (lv_room hroom) hdg hcl) (va_P.app (va_P.app (va_P.app hu9 hr9) he9) hW) (gC_T hG [1, 0, 5, 2, 3, 4, 6] rfl rfl) (fun q h => mem_vA h) (fun q h => mem_vA h) (gC_N hG [1, 0, 5] rfl rfl) hA hS (fun r7 v7 H1 locs1 hp hP hO hS1 => ?_)
  rw [hF_of hf] at hp
  obtain ⟨rfl, rfl⟩ := Prod.mk.inj hp
  have nhk9 := va_P_suf hP
  have thP2 := va_P_pre hP
  have nhb9 := va_P_suf thP2
  have thP1 := va_P_pre thP2
  have nhs9 := thP1
  have nhW := va_P_suf hO
  have thO3 := va_P_pre hO
  have nhe9 := va_P_suf thO3
  have thO2 := va_P_pre thO3
  have nhr9 := va_P_suf thO2
  have thO1 := va_P_pre thO2
  have nhu9 := thO1
  exact kk9 H1 locs1 ⟨nhb9, nhs9, nhu9, nhr9, nhe9, nhk9⟩ nhW hS1
set_option maxHeartbeats 4000000 in
set_option maxRecDepth 100000 in
theorem w_partOf {l : Launch} (hfl : l.stackTraces = false) {dC : Nat → ClassId} {dI : Nat → Nat → Nat} {cI cB cO cL : ClassId} {N0 : Nat} {sT eA qb qs qu qr qe qk qx qd : Nat → Nat} {b : BS} {s9 : SS} {u : US} {tr te : TS} {kk : Int32} {wo : va_W} {p : Program} {e : Env} {R : Room} {s : State} {m : MethodId} {args : Array Value} {below : List Frame} {meth : Method} {c : Code} {H H0 : Heap} {locs : List Loc} {cells slots : Nat} {Q : State → Prop} {pc nL : Nat} {ls : Array Slot} {rest : List Value} {A : Nat → Prop} {cc : ByteArray} {cw9 : Cond}
    (hx : p.tables.exec = Jvm.exec) (hb : c.code = cc) (hml : c.maxLocals = nL) (hown : s.vm.findClass RL = some m.cls) (hts : ∀ w ∈ cw9 :: gT, w.before args s = true) (hK : va_K (dC, dI) vwCl (tYS cI cB cO cL) s) (hF : eF N0 sT eA s s.heap) (hC : nC s) (hN : ∀ q, A q → N0 ≤ q) (hG : gC A (cpT qb qs qu qr qe qk (wo.map Prod.fst))) (hA : ∀ q, H0.size ≤ q → A q) (hH : s.heap = H0) (hN0 : N0 ≤ H0.size)
    (hS : va_S A H0 H locs) (hI : OI (dC, dI) cI cB qb qs qu qr qe qk qx qd kk (b, s9, u, tr, te) H) (hW : va_P (dC, dI) vwCl wo H) {a1 a2 a3 : Int32} {c9 : Nat} {r9 : Int32} {b' : BS} (hf : pX11_part b kk a1 a2 a3 = (c9, (r9, (b', kk)))) (hk : kX11_part b kk a1 a2 a3) (hc : c9 = 0 ∨ c9 = 2 ∨ c9 = 1)
    (hR : rL_partOf.frames + 1 ≤ R.frames ∧ 8 + (5 + 11) + rL_partOf.locals ≤ R.locals) (v9 : Int32) (hv9 : rv c9 r9 = v9) (hroom : (rest.map fun v => v.category).sum ≤ 8) (hsz : ls.size = nL) (hdg : decode cc pc = .ok (.invokestatic 165, 3)) (hcl : cells + 4 ≤ R.cells ∧ slots + 24 ≤ R.slots)
    (kk9 : ∀ (H1 : Heap) (locs1 : List Loc), OI (dC, dI) cI cB qb qs qu qr qe qk qx qd kk (b', s9, u, tr, te) H1 → va_P (dC, dI) vwCl wo H1 → va_S A H0 H1 locs1 → W p l e R s m args below meth c H1 locs1 (cells + 4) (slots + 24) Q (F0 m (pc + 3) ls (.int v9 :: rest))) : W p l e R s m args below meth c H locs cells slots Q (F0 m pc ls (.int a3 :: .int a2 :: .int a1 :: .ref (qk 0) :: rest)) := by
  obtain ⟨hb9, hs9, hu9, hr9, he9, hk9⟩ := hI
  subst hH hv9
  have hc9 : (pX11_part b kk a1 a2 a3).1 = 0 ∨ (pX11_part b kk a1 a2 a3).1 = 2 ∨ (pX11_part b kk a1 a2 a3).1 = 1 := by rw [hf]; exact hc
  refine i_call (H0 := s.heap) (Wd := (fun z9 : BS × Int32 => bw qb cI z9.1 ++ kw qk qb qr qe qs qu qx qd cI z9.2)) (w0 := bw qb cI b ++ kw qk qb qr qe qs qu qx qd cI kk) (wo := sw qs cI s9 ++ uw qu cI cB u ++ aw qr cI tr ++ ew qe cI te ++ wo) (vx_runSW (mc := 4) (ms := 24) (As := [.ref (qk 0), .int a1, .int a2, .int a3]) (rest := rest) ⟨hx, hb, hml, hown, hts⟩ (mL_partOf l hfl dC dI cI cB cO cL N0 sT eA qb qk qr qe qs qu qx qd b kk a1 a2 a3 H.size (Nat.le_trans hN0 hS.1) (gC_T hG [0, 5] rfl rfl) (fun a h => hN a (gC_N hG [0, 5] rfl rfl a h)) hk hc9) (vx_cwSW 4 hts (gT_in gQ_L_partOf_165) rfl rfl rfl (by decide +kernel) hR) ⟨lP_blind, lP_ok (A := A) (va_P.app hb9 hk9) hK hF hC hS hN⟩ rfl rfl hsz rfl (lv_room hroom) hdg hcl) (va_P.app (va_P.app (va_P.app (va_P.app hs9 hu9) hr9) he9) hW) (gC_T hG [0, 5, 1, 2, 3, 4, 6] rfl rfl) (fun q h => mem_vA h) (fun q h => mem_vA h) (gC_N hG [0, 5] rfl rfl) hA hS (fun r7 v7 H1 locs1 hp hP hO hS1 => ?_)
  rw [hF_of hf] at hp
  obtain ⟨rfl, rfl⟩ := Prod.mk.inj hp
  have nhk9 := va_P_suf hP
  have thP1 := va_P_pre hP
  have nhb9 := thP1
  have nhW := va_P_suf hO
  have thO4 := va_P_pre hO
  have nhe9 := va_P_suf thO4
  have thO3 := va_P_pre thO4
  have nhr9 := va_P_suf thO3
  have thO2 := va_P_pre thO3
  have nhu9 := va_P_suf thO2
  have thO1 := va_P_pre thO2
  have nhs9 := thO1
  exact kk9 H1 locs1 ⟨nhb9, nhs9, nhu9, nhr9, nhe9, nhk9⟩ nhW hS1
end SROWS
