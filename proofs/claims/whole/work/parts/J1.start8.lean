/-! THE LAW: from its entry -/
section WST
variable {p : Program} {l : Launch} {e : Env} {R : Room} {s : State} {m : MethodId} {args : Array Value} {below : List Frame} {meth : Method} {c : Code} {H : Heap} {locs : List Loc} {cells slots : Nat} {Q : State → Prop}
variable {pc : Nat} {ls : Array Slot} {rest st0 : List Value} {a : Array Value} {A A0 : Nat → Prop} {H0 : Heap} {D : va_G} {ws wc : va_W} {cc : ByteArray} {nL : Nat} {own : String} {Ts : List Cond}
theorem ck_long {cl : List vw_C} {tys : List (ClassId × FieldType)} {U : State} {cI cA : ClassId} {i : Nat} (h1 : va_K D cl tys U) (ht : tys[i]? = some (cI, .long)) (h2 : va_K D cl (tys ++ [(cA, .long)]) U) : cA = cI := by
  have a : U.vm.findClass ("[" ++ FieldType.long.toString) = some cI := (h1.2 i _ ht).2
  have b : U.vm.findClass ("[" ++ FieldType.long.toString) = some cA := (h2.2 tys.length (cA, .long) (by simp)).2
  exact Option.some.inj (b.symm.trans a)
theorem g_newl {tys : List (ClassId × FieldType)} (hexec : p.tables.exec = Jvm.exec) (hb : c.code = cc) (harr : (Cond.arrayClass .long).before args s = true) (hK : va_K D vwCl tys s) (hP : va_P D vwCl ws H) (hD : va_D A ws) (hS : va_S A H0 H locs) (hA : ∀ q, H0.size ≤ q → A q) (t0 : Nat) {cI : ClassId} (ht : tys[t0]? = some (cI, .long))
    {n : Int32} {N' : Nat} (hn : ¬ n < 0) (hN : n.toNatClampNeg = N') (hbytes : N' * 8 ≤ 536870912) (hcells : cells + 1 ≤ R.cells) (hslots : slots + N' ≤ R.slots) (hdg : decode cc pc = .ok (.newarray .long, 2))
    (kk : ∀ (q : Nat) (H1 : Heap), va_P D vwCl (ws ++ [(q, .inl (cI, N', .inr (.inl (fun _ => 0))))]) H1 → va_D A (ws ++ [(q, .inl (cI, N', .inr (.inl (fun _ => 0))))]) → va_S A H0 H1 locs → W p l e R s m args below meth c H1 locs (cells + 1) (slots + N') Q (F0 m (pc + 2) ls (.ref q :: rest))) : W p l e R s m args below meth c H locs cells slots Q (F0 m pc ls (.int n :: rest)) :=
  va_newa (atype := .long) (a0 := (N', .inr (.inl (fun _ => 0)))) hexec hb harr rfl hK hP hD hS hA (fun cA => rfl) hn hN hbytes hcells hslots hdg (fun q cA H1 hK1 hP1 hD1 hS1 => by
    have e := ck_long hK ht hK1
    subst e
    exact kk q H1 hP1 hD1 hS1)
end WST
set_option maxHeartbeats 4000000 in
set_option maxRecDepth 100000 in
theorem whole_start {p : Program} {e : Env} {s : State} {m : MethodId} {below : List Frame} {meth : Method} {c : Code} (l : Launch) (hflags : l.flags = flags0) {b L : Nat} {xs : Nat → Int32} (hL : L ≤ 3072) (C0 : lw_At p s m meth c b L xs) : W p l e room_1 s m #[Value.ref b] below meth c s.heap [] 0 0 (lw_Z below #[Value.ref b] s) (entryFrame m ([Value.ref b] : List Value).toArray 9) := by
  obtain ⟨hx, hb, hr, hml, hown, hts, hX, hbl, hlocks, hgv⟩ := C0
  have hown : s.vm.findClass RL = some m.cls := hown
  obtain ⟨dC, dI, cI, cB, cO, cL, hK⟩ := st_K hts
  obtain ⟨sT, eA, hF⟩ := st_F hts hgv
  have hO := st_AO hts
  have hC := st_C hgv
  have hfl : l.stackTraces = false := by
    unfold Launch.stackTraces
    rw [hflags]
    decide
  have hA : ∀ q : Nat, s.heap.size ≤ q → xA s.heap.size q := fun _ h => h
  have hN : ∀ q : Nat, xA s.heap.size q → s.heap.size ≤ q := fun _ h => h
  have hS : va_S (xA s.heap.size) s.heap s.heap [] := va_S.rf
  have hP : va_P (dC, dI) vwCl ([] : va_W) s.heap := fun k q h => by simp at h
  have hD : va_D (xA s.heap.size) ([] : va_W) := ⟨fun i j p q h => by simp at h, fun k q h => by simp at h⟩
  have hl := lv_entry ([.ref b]) (n := 9) (Nat.le_of_ble_eq_true rfl)
  rw [lg_entry_eq]
  generalize (lg_sl ([.ref b]) ++ List.replicate (9 - (lg_sl ([.ref b])).length) Slot.unset).toArray = ls at hl ⊢
  have hl : lv_has ls 9 [(0, .ref b)] := hl
  refine va_new (ci := 8) (fs := [.null, .null, .null, .null, .null, .null, .null, .int 0]) (C := RX11) (T := TX11) (N := 8) hx hb hts (fun w h => (gcX110 w h).1) tyX11 tyX11_ok hown (hts (.classLink RL 8 RX11) (by decide +kernel)) (hts (.instantiable RX11 8) (by decide +kernel)) (hts (.initialized RX11) (by decide +kernel)) hK hP hD hS hA rfl (fun j hj => by rcases (show j = 0 ∨ j = 1 ∨ j = 2 ∨ j = 3 ∨ j = 4 ∨ j = 5 ∨ j = 6 ∨ j = 7 by omega) with rfl | rfl | rfl | rfl | rfl | rfl | rfl | rfl <;> rfl) (Nat.le_of_ble_eq_true rfl) (Nat.le_of_ble_eq_true rfl) dL_law_0 (fun h0 H hP hD hS => ?_)
  have hP : va_P (dC, dI) vwCl ([(h0, .inr (8, [.null, .null, .null, .null, .null, .null, .null, .int 0]))]) H := hP
  have hD : va_D (xA s.heap.size) ([(h0, .inr (8, [.null, .null, .null, .null, .null, .null, .null, .int 0]))]) := hD
  refine lv_dup hx hb dL_law_3 rfl ?_
  have hPc := hP.sub (ws' := [(h0, .inr (8, [.null, .null, .null, .null, .null, .null, .null, .int 0]))]) [0] rfl
  have hFc := va_free (wc := [(h0, .inr (8, [.null, .null, .null, .null, .null, .null, .null, .int 0]))]) hD hS hA [0] rfl
  refine va_callv (va_runI (As := []) (rest := [.ref h0]) ⟨hx, hb, hml, hown, hts⟩ (mX11_init l dC dI cI cB cO cL s.heap.size sT eA h0 H.size hS.1 (hN _ (hD.2 0 _ rfl))) (cwI 0 hts glX11_init rfl rfl rfl (hts (.initialized RX11) (by decide +kernel)) (hts (.methodLink RL 93 yX11_init) (by decide +kernel)) (hts (.instanceMethod yX11_init) (by decide +kernel)) rfl (by decide +kernel) ⟨Nat.le_of_ble_eq_true rfl, Nat.le_of_ble_eq_true rfl⟩) ⟨qP_blind, qP_ok hPc hK hF hO hS hN⟩ rfl rfl hl.1 rfl (lv_room (Nat.le_of_ble_eq_true rfl)) dL_law_4 ⟨Nat.le_of_ble_eq_true rfl, Nat.le_of_ble_eq_true rfl⟩) hS (fun q9 _ h9 => hFc q9 h9) hFc (fun u9 t9 H1 locs ht9 hvm9 hw9 hB9 hz9 hk9 hS => ?_)
  obtain ⟨qk, qb, qr, qe, qs, qu, qx, qd, eq9, hP1, hD1⟩ := hB9
  rw [ht9] at hP1
  obtain ⟨hPn, hDn⟩ := va_join (wr := []) (w1 := kw qk qb qr qe qs qu qx qd cI 0 ++ bw qb cI bI0 ++ aw qr cI ((0 : Int32), (fun _ => 0)) ++ ew qe cI ((0 : Int32), (fun _ => 0)) ++ sw qs cI sI0 ++ uw qu cI cB uI0 ++ xw qx cI ((0 : Int32), (fun _ => 0)) ++ dw qd cI cO eA dI0) hP hD [0] [] rfl rfl (by decide) (by decide) hk9 hFc hP1 hD1
  generalize H1 = H at hPn hS ⊢
  subst eq9
  have hP := hPn
  have hD := hDn
  have hP : va_P (dC, dI) vwCl (kw qk qb qr qe qs qu qx qd cI 0 ++ bw qb cI bI0 ++ aw qr cI ((0 : Int32), (fun _ => 0)) ++ ew qe cI ((0 : Int32), (fun _ => 0)) ++ sw qs cI sI0 ++ uw qu cI cB uI0 ++ xw qx cI ((0 : Int32), (fun _ => 0)) ++ dw qd cI cO eA dI0) H := hP
  have hD : va_D (xA s.heap.size) (kw qk qb qr qe qs qu qx qd cI 0 ++ bw qb cI bI0 ++ aw qr cI ((0 : Int32), (fun _ => 0)) ++ ew qe cI ((0 : Int32), (fun _ => 0)) ++ sw qs cI sI0 ++ uw qu cI cB uI0 ++ xw qx cI ((0 : Int32), (fun _ => 0)) ++ dw qd cI cO eA dI0) := hD
  refine lv_astore_n (lv' := [(1, .ref (qk 0)), (0, .ref b)]) hx hb dL_law_7 rfl hl (by decide) rfl (fun ls hl => ?_)
  refine va_new (ci := 9) (fs := [.null, .null, .null, .int 0, .null, .int 0, .int 0, .int 0, .null, .null, .null, .null, .null, .int 0, .int 0, .null, .null, .null, .int 0, .int 0, .long 0, .null, .long 0]) (C := RX12) (T := TX12) (N := 23) hx hb hts (fun w h => (gcX120 w h).1) tyX12 tyX12_ok hown (hts (.classLink RL 94 RX12) (by decide +kernel)) (hts (.instantiable RX12 23) (by decide +kernel)) (hts (.initialized RX12) (by decide +kernel)) hK hP hD hS hA rfl (fun j hj => by rcases (show j = 0 ∨ j = 1 ∨ j = 2 ∨ j = 3 ∨ j = 4 ∨ j = 5 ∨ j = 6 ∨ j = 7 ∨ j = 8 ∨ j = 9 ∨ j = 10 ∨ j = 11 ∨ j = 12 ∨ j = 13 ∨ j = 14 ∨ j = 15 ∨ j = 16 ∨ j = 17 ∨ j = 18 ∨ j = 19 ∨ j = 20 ∨ j = 21 ∨ j = 22 by omega) with rfl | rfl | rfl | rfl | rfl | rfl | rfl | rfl | rfl | rfl | rfl | rfl | rfl | rfl | rfl | rfl | rfl | rfl | rfl | rfl | rfl | rfl | rfl <;> rfl) (Nat.le_of_ble_eq_true rfl) (Nat.le_of_ble_eq_true rfl) dL_law_8 (fun h1 H hP hD hS => ?_)
  have hP : va_P (dC, dI) vwCl (kw qk qb qr qe qs qu qx qd cI 0 ++ bw qb cI bI0 ++ aw qr cI ((0 : Int32), (fun _ => 0)) ++ ew qe cI ((0 : Int32), (fun _ => 0)) ++ sw qs cI sI0 ++ uw qu cI cB uI0 ++ xw qx cI ((0 : Int32), (fun _ => 0)) ++ dw qd cI cO eA dI0 ++ [(h1, .inr (9, [.null, .null, .null, .int 0, .null, .int 0, .int 0, .int 0, .null, .null, .null, .null, .null, .int 0, .int 0, .null, .null, .null, .int 0, .int 0, .long 0, .null, .long 0]))]) H := hP
  have hD : va_D (xA s.heap.size) (kw qk qb qr qe qs qu qx qd cI 0 ++ bw qb cI bI0 ++ aw qr cI ((0 : Int32), (fun _ => 0)) ++ ew qe cI ((0 : Int32), (fun _ => 0)) ++ sw qs cI sI0 ++ uw qu cI cB uI0 ++ xw qx cI ((0 : Int32), (fun _ => 0)) ++ dw qd cI cO eA dI0 ++ [(h1, .inr (9, [.null, .null, .null, .int 0, .null, .int 0, .int 0, .int 0, .null, .null, .null, .null, .null, .int 0, .int 0, .null, .null, .null, .int 0, .int 0, .long 0, .null, .long 0]))]) := hD
  refine lv_dup hx hb dL_law_11 rfl ?_
  have hPc := hP.sub (ws' := [(h1, .inr (9, [.null, .null, .null, .int 0, .null, .int 0, .int 0, .int 0, .null, .null, .null, .null, .null, .int 0, .int 0, .null, .null, .null, .int 0, .int 0, .long 0, .null, .long 0]))]) [65] rfl
  have hFc := va_free (wc := [(h1, .inr (9, [.null, .null, .null, .int 0, .null, .int 0, .int 0, .int 0, .null, .null, .null, .null, .null, .int 0, .int 0, .null, .null, .null, .int 0, .int 0, .long 0, .null, .long 0]))]) hD hS hA [65] rfl
  refine va_callv (va_runI (As := []) (rest := [.ref h1]) ⟨hx, hb, hml, hown, hts⟩ (mX12_init l dC dI cI cB cO cL s.heap.size sT eA h1 H.size hS.1 (hN _ (hD.2 65 _ rfl))) (cwI 0 hts glX12_init rfl rfl rfl (hts (.initialized RX12) (by decide +kernel)) (hts (.methodLink RL 96 yX12_init) (by decide +kernel)) (hts (.instanceMethod yX12_init) (by decide +kernel)) rfl (by decide +kernel) ⟨Nat.le_of_ble_eq_true rfl, Nat.le_of_ble_eq_true rfl⟩) ⟨qP_blind, qP_ok hPc hK hF hO hS hN⟩ rfl rfl hl.1 rfl (lv_room (Nat.le_of_ble_eq_true rfl)) dL_law_12 ⟨Nat.le_of_ble_eq_true rfl, Nat.le_of_ble_eq_true rfl⟩) hS (fun q9 _ h9 => hFc q9 h9) hFc (fun u9 t9 H1 locs ht9 hvm9 hw9 hB9 hz9 hk9 hS => ?_)
  obtain ⟨qm, eq9, hP1, hD1⟩ := hB9
  rw [ht9] at hP1
  obtain ⟨hPn, hDn⟩ := va_join (wr := kw qk qb qr qe qs qu qx qd cI 0 ++ bw qb cI bI0 ++ aw qr cI ((0 : Int32), (fun _ => 0)) ++ ew qe cI ((0 : Int32), (fun _ => 0)) ++ sw qs cI sI0 ++ uw qu cI cB uI0 ++ xw qx cI ((0 : Int32), (fun _ => 0)) ++ dw qd cI cO eA dI0) (w1 := mw qm cI mI0) hP hD [65] [0, 1, 2, 3, 4, 5, 6, 7, 8, 9, 10, 11, 12, 13, 14, 15, 16, 17, 18, 19, 20, 21, 22, 23, 24, 25, 26, 27, 28, 29, 30, 31, 32, 33, 34, 35, 36, 37, 38, 39, 40, 41, 42, 43, 44, 45, 46, 47, 48, 49, 50, 51, 52, 53, 54, 55, 56, 57, 58, 59, 60, 61, 62, 63, 64] rfl rfl (by decide) (by decide) hk9 hFc hP1 hD1
  generalize H1 = H at hPn hS ⊢
  subst eq9
  have hP := hPn
  have hD := hDn
  have hP : va_P (dC, dI) vwCl (kw qk qb qr qe qs qu qx qd cI 0 ++ bw qb cI bI0 ++ aw qr cI ((0 : Int32), (fun _ => 0)) ++ ew qe cI ((0 : Int32), (fun _ => 0)) ++ sw qs cI sI0 ++ uw qu cI cB uI0 ++ xw qx cI ((0 : Int32), (fun _ => 0)) ++ dw qd cI cO eA dI0 ++ mw qm cI mI0) H := hP
  have hD : va_D (xA s.heap.size) (kw qk qb qr qe qs qu qx qd cI 0 ++ bw qb cI bI0 ++ aw qr cI ((0 : Int32), (fun _ => 0)) ++ ew qe cI ((0 : Int32), (fun _ => 0)) ++ sw qs cI sI0 ++ uw qu cI cB uI0 ++ xw qx cI ((0 : Int32), (fun _ => 0)) ++ dw qd cI cO eA dI0 ++ mw qm cI mI0) := hD
  refine lv_astore_n (lv' := [(2, .ref (qm 0)), (1, .ref (qk 0)), (0, .ref b)]) hx hb dL_law_15 rfl hl (by decide) rfl (fun ls hl => ?_)
  refine lv_iconst (v := 1) hx hb dL_law_16 (by decide) ?_
  refine g_newl (tys := (tYS cI cB cO cL)) (N' := 1) hx hb (hts (.arrayClass .long) (by decide +kernel)) hK hP hD hS hA 3 rfl (by decide) (by decide) (Nat.le_of_ble_eq_true rfl) (Nat.le_of_ble_eq_true rfl) (Nat.le_of_ble_eq_true rfl) dL_law_17 (fun ao H hP hD hS => ?_)
  have hP : va_P (dC, dI) vwCl (kw qk qb qr qe qs qu qx qd cI 0 ++ bw qb cI bI0 ++ aw qr cI ((0 : Int32), (fun _ => 0)) ++ ew qe cI ((0 : Int32), (fun _ => 0)) ++ sw qs cI sI0 ++ uw qu cI cB uI0 ++ xw qx cI ((0 : Int32), (fun _ => 0)) ++ dw qd cI cO eA dI0 ++ mw qm cI mI0 ++ lo cL ao (fun _ => 0)) H := hP
  have hD : va_D (xA s.heap.size) (kw qk qb qr qe qs qu qx qd cI 0 ++ bw qb cI bI0 ++ aw qr cI ((0 : Int32), (fun _ => 0)) ++ ew qe cI ((0 : Int32), (fun _ => 0)) ++ sw qs cI sI0 ++ uw qu cI cB uI0 ++ xw qx cI ((0 : Int32), (fun _ => 0)) ++ dw qd cI cO eA dI0 ++ mw qm cI mI0 ++ lo cL ao (fun _ => 0)) := hD
  refine lv_astore_n (lv' := [(3, .ref ao), (2, .ref (qm 0)), (1, .ref (qk 0)), (0, .ref b)]) hx hb dL_law_19 rfl hl (by decide) rfl (fun ls hl => ?_)
  refine lv_iconst (v := 0) hx hb dL_law_20 (by decide) ?_
  refine lv_istore (lv' := [(4, .int 0), (3, .ref ao), (2, .ref (qm 0)), (1, .ref (qk 0)), (0, .ref b)]) hx hb dL_law_21 hl (by decide) rfl (fun ls hl => ?_)
  have hG : gC (xA s.heap.size) (cp qb qs qu qr qe qx qd qk qm ao) := gC_all (gD_w hD)
  have ho := va_P_suf hP
  have t1 := va_P_pre hP
  have hm := va_P_suf t1
  have t2 := va_P_pre t1
  have hd := va_P_suf t2
  have t3 := va_P_pre t2
  have hx9 := va_P_suf t3
  have t4 := va_P_pre t3
  have hu := va_P_suf t4
  have t5 := va_P_pre t4
  have hs := va_P_suf t5
  have t6 := va_P_pre t5
  have he := va_P_suf t6
  have t7 := va_P_pre t6
  have hr9 := va_P_suf t7
  have t8 := va_P_pre t7
  have hb9 := va_P_suf t8
  have hk := va_P_pre t8
  exact w_loop p l e s m below meth c b L xs dC dI cI cB cO cL sT eA qb qs qu qr qe qx qd qk qm ao ⟨hfl, ⟨hx, hb, hr, hml, hown, hts, hlocks⟩, hK, hF, hC, hX, hbl, hL, hG⟩ 513 0 _ _ (by omega) (by decide +kernel) (by decide +kernel) bI0 sI0 uI0 ((0 : Int32), (fun _ => 0)) ((0 : Int32), (fun _ => 0)) ((0 : Int32), (fun _ => 0)) dI0 0 mI0 (fun _ => 0) H locs ls ⟨hb9, hs, hu, hr9, he, hx9, hd, hk, hm, ho⟩ SR0 hS hl (by omega)
