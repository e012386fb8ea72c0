/-! THE LAW: from its entry -/
section WST
set_option maxHeartbeats 4000000 in
set_option maxRecDepth 100000 in
theorem whole_start {p : Program} {e : Env} {s : State} {m : MethodId} {below : List Frame} {meth : Method} {c : Code} (l : Launch) (hflags : l.flags = flags0) {b L : Nat} {xs : Nat → Int32} (hL : L ≤ 260) (C0 : lw_At p s m meth c b L xs) : W p l e room_1 s m #[Value.ref b] below meth c s.heap [] 0 0 (lw_Z below #[Value.ref b] s) (entryFrame m ([Value.ref b] : List Value).toArray 9) := by
  obtain ⟨hx, hb, hr, hml, hown, hts, hX, hbl, hlocks, hgv⟩ := C0
  have hb : c.code = cL_law := hb
  have hown : s.vm.findClass RL = some m.cls := hown
  obtain ⟨dC, dI, cI, cB, cO, cL, hK⟩ := st_K hts
  obtain ⟨sT, eA, hF⟩ := st_F hts hgv
  have hO := st_AO hts
  have hC := st_C hgv
  have hfl : l.stackTraces = false := by
    unfold Launch.stackTraces
    rw [hflags]
    decide
  have hA : ∀ q : Nat, s.heap.size ≤ q → xA s.heap.size q := fun _ h => h
  have hN : ∀ q : Nat, xA s.heap.size q → s.heap.size ≤ q := fun _ h => h
  have hS : va_S (xA s.heap.size) s.heap s.heap [] := va_S.rf
  have hP : va_P (dC, dI) vwCl ([] : va_W) s.heap := fun k q h => by simp at h
  have hD : va_D (xA s.heap.size) ([] : va_W) := ⟨fun i j p q h => by simp at h, fun k q h => by simp at h⟩
  have hl := lv_entry ([.ref b]) (n := 9) (Nat.le_of_ble_eq_true rfl)
  rw [lg_entry_eq]
  generalize (lg_sl ([.ref b]) ++ List.replicate (9 - (lg_sl ([.ref b])).length) Slot.unset).toArray = ls at hl ⊢
  have hl : lv_has ls 9 [(0, .ref b)] := hl
  refine va_new (ci := 8) (fs := [.null, .null, .null, .null, .null, .null, .null, .int 0]) (C := RX11) (T := TX11) (N := 8) hx hb hts (fun w h => (gcX110 w h).1) tyX11 tyX11_ok hown (hts (.classLink RL 101 RX11) (by decide +kernel)) (hts (.instantiable RX11 8) (by decide +kernel)) (hts (.initialized RX11) (by decide +kernel)) hK hP hD hS hA rfl (fun j hj => by rcases (show j = 0 ∨ j = 1 ∨ j = 2 ∨ j = 3 ∨ j = 4 ∨ j = 5 ∨ j = 6 ∨ j = 7 by omega) with rfl | rfl | rfl | rfl | rfl | rfl | rfl | rfl <;> rfl) (Nat.le_of_ble_eq_true rfl) (Nat.le_of_ble_eq_true rfl) dL_law_0 (fun h0 H hP hD hS => ?_)
  have hP : va_P (dC, dI) vwCl ([(h0, .inr (8, [.null, .null, .null, .null, .null, .null, .null, .int 0]))]) H := hP
  have hD : va_D (xA s.heap.size) ([(h0, .inr (8, [.null, .null, .null, .null, .null, .null, .null, .int 0]))]) := hD
  refine lv_dup hx hb dL_law_3 rfl ?_
  have hPc := hP.sub (ws' := [(h0, .inr (8, [.null, .null, .null, .null, .null, .null, .null, .int 0]))]) [0] rfl
  have hFc := va_free (wc := [(h0, .inr (8, [.null, .null, .null, .null, .null, .null, .null, .int 0]))]) hD hS hA [0] rfl
  refine va_callv (va_runI (As := []) (rest := [.ref h0]) ⟨hx, hb, hml, hown, hts⟩ (mX11_init l dC dI cI cB cO cL s.heap.size sT eA h0 H.size hS.1 (hN _ (hD.2 0 _ rfl))) (cwI 0 hts glX11_init rfl rfl rfl (hts (.initialized RX11) (by decide +kernel)) (hts (.methodLink RL 184 yX11_init) (by decide +kernel)) (hts (.instanceMethod yX11_init) (by decide +kernel)) rfl (by decide +kernel) ⟨Nat.le_of_ble_eq_true rfl, Nat.le_of_ble_eq_true rfl⟩) ⟨qP_blind, qP_ok hPc hK hF hO hS hN⟩ rfl rfl hl.1 rfl (lv_room (Nat.le_of_ble_eq_true rfl)) dL_law_4 ⟨Nat.le_of_ble_eq_true rfl, Nat.le_of_ble_eq_true rfl⟩) hS (fun q9 _ h9 => hFc q9 h9) hFc (fun u9 t9 H1 locs ht9 hvm9 hw9 hB9 hz9 hk9 hS => ?_)
  obtain ⟨qk, qb, qr, qe, qs, qu, qx, qd, eq9, hP1, hD1⟩ := hB9
  rw [ht9] at hP1
  obtain ⟨hPn, hDn⟩ := va_join (wr := []) (w1 := kw qk qb qr qe qs qu qx qd cI 0 ++ bw qb cI bI0 ++ aw qr cI tZ ++ ew qe cI tZ ++ sw qs cI sI0 ++ uw qu cI cB uI0 ++ xw qx cI tZ ++ dw qd cI cO eA dI0) hP hD [0] [] rfl rfl (by decide) (by decide) hk9 hFc hP1 hD1
  generalize H1 = H at hPn hS ⊢
  subst eq9
  have hP := hPn
  have hD := hDn
  have hP : va_P (dC, dI) vwCl (kw qk qb qr qe qs qu qx qd cI 0 ++ bw qb cI bI0 ++ aw qr cI tZ ++ ew qe cI tZ ++ sw qs cI sI0 ++ uw qu cI cB uI0 ++ xw qx cI tZ ++ dw qd cI cO eA dI0) H := hP
  have hD : va_D (xA s.heap.size) (kw qk qb qr qe qs qu qx qd cI 0 ++ bw qb cI bI0 ++ aw qr cI tZ ++ ew qe cI tZ ++ sw qs cI sI0 ++ uw qu cI cB uI0 ++ xw qx cI tZ ++ dw qd cI cO eA dI0) := hD
  refine lv_astore_n (lv' := [(1, .ref (qk 0)), (0, .ref b)]) hx hb dL_law_7 rfl hl (by decide) rfl (fun ls hl => ?_)
  refine lv_bipush (v := 14) hx hb dL_law_8 (by decide) ?_
  refine g_newi (tys := (tYS cI cB cO cL)) (N' := 14) hx hb (hts (.arrayClass .int) tw73.1) hK hP hD hS hA 0 rfl (by decide) (by decide) (Nat.le_of_ble_eq_true rfl) (Nat.le_of_ble_eq_true rfl) (Nat.le_of_ble_eq_true rfl) dL_law_10 (fun ag H hP hD hS => ?_)
  have hP : va_P (dC, dI) vwCl (kw qk qb qr qe qs qu qx qd cI 0 ++ bw qb cI bI0 ++ aw qr cI tZ ++ ew qe cI tZ ++ sw qs cI sI0 ++ uw qu cI cB uI0 ++ xw qx cI tZ ++ dw qd cI cO eA dI0 ++ [(ag, .inl (cI, 14, .inl (fun _ => 0)))]) H := hP
  have hD : va_D (xA s.heap.size) (kw qk qb qr qe qs qu qx qd cI 0 ++ bw qb cI bI0 ++ aw qr cI tZ ++ ew qe cI tZ ++ sw qs cI sI0 ++ uw qu cI cB uI0 ++ xw qx cI tZ ++ dw qd cI cO eA dI0 ++ [(ag, .inl (cI, 14, .inl (fun _ => 0)))]) := hD
  refine lv_astore_n (lv' := [(2, .ref ag), (1, .ref (qk 0)), (0, .ref b)]) hx hb dL_law_12 rfl hl (by decide) rfl (fun ls hl => ?_)
  refine lv_bipush (v := 40) hx hb dL_law_13 (by decide) ?_
  refine g_newi (tys := (tYS cI cB cO cL)) (N' := 40) hx hb (hts (.arrayClass .int) tw73.1) hK hP hD hS hA 0 rfl (by decide) (by decide) (Nat.le_of_ble_eq_true rfl) (Nat.le_of_ble_eq_true rfl) (Nat.le_of_ble_eq_true rfl) dL_law_15 (fun am H hP hD hS => ?_)
  have hP : va_P (dC, dI) vwCl (kw qk qb qr qe qs qu qx qd cI 0 ++ bw qb cI bI0 ++ aw qr cI tZ ++ ew qe cI tZ ++ sw qs cI sI0 ++ uw qu cI cB uI0 ++ xw qx cI tZ ++ dw qd cI cO eA dI0 ++ [(ag, .inl (cI, 14, .inl (fun _ => 0)))] ++ [(am, .inl (cI, 40, .inl (fun _ => 0)))]) H := hP
  have hD : va_D (xA s.heap.size) (kw qk qb qr qe qs qu qx qd cI 0 ++ bw qb cI bI0 ++ aw qr cI tZ ++ ew qe cI tZ ++ sw qs cI sI0 ++ uw qu cI cB uI0 ++ xw qx cI tZ ++ dw qd cI cO eA dI0 ++ [(ag, .inl (cI, 14, .inl (fun _ => 0)))] ++ [(am, .inl (cI, 40, .inl (fun _ => 0)))]) := hD
  refine lv_astore_n (lv' := [(3, .ref am), (2, .ref ag), (1, .ref (qk 0)), (0, .ref b)]) hx hb dL_law_17 rfl hl (by decide) rfl (fun ls hl => ?_)
  refine lv_bipush (v := 24) hx hb dL_law_18 (by decide) ?_
  refine g_newi (tys := (tYS cI cB cO cL)) (N' := 24) hx hb (hts (.arrayClass .int) tw73.1) hK hP hD hS hA 0 rfl (by decide) (by decide) (Nat.le_of_ble_eq_true rfl) (Nat.le_of_ble_eq_true rfl) (Nat.le_of_ble_eq_true rfl) dL_law_20 (fun aw9 H hP hD hS => ?_)
  have hP : va_P (dC, dI) vwCl (kw qk qb qr qe qs qu qx qd cI 0 ++ bw qb cI bI0 ++ aw qr cI tZ ++ ew qe cI tZ ++ sw qs cI sI0 ++ uw qu cI cB uI0 ++ xw qx cI tZ ++ dw qd cI cO eA dI0 ++ [(ag, .inl (cI, 14, .inl (fun _ => 0)))] ++ [(am, .inl (cI, 40, .inl (fun _ => 0)))] ++ [(aw9, .inl (cI, 24, .inl (fun _ => 0)))]) H := hP
  have hD : va_D (xA s.heap.size) (kw qk qb qr qe qs qu qx qd cI 0 ++ bw qb cI bI0 ++ aw qr cI tZ ++ ew qe cI tZ ++ sw qs cI sI0 ++ uw qu cI cB uI0 ++ xw qx cI tZ ++ dw qd cI cO eA dI0 ++ [(ag, .inl (cI, 14, .inl (fun _ => 0)))] ++ [(am, .inl (cI, 40, .inl (fun _ => 0)))] ++ [(aw9, .inl (cI, 24, .inl (fun _ => 0)))]) := hD
  refine lv_astore (lv' := [(4, .ref aw9), (3, .ref am), (2, .ref ag), (1, .ref (qk 0)), (0, .ref b)]) hx hb dL_law_22 hl (by decide) rfl (fun ls hl => ?_)
  have hG : gC (xA s.heap.size) (cpT qb qs qu qr qe qk [ag, am, aw9]) := gC_start (qx := qx) (qd := qd) (gD_w hD)
  have hw3 := va_P_suf hP
  have t1 := va_P_pre hP
  have hm3 := va_P_suf t1
  have t2 := va_P_pre t1
  have hg3 := va_P_suf t2
  have t3 := va_P_pre t2
  have t4 := va_P_pre (va_P_pre t3)
  have hu := va_P_suf t4
  have t5 := va_P_pre t4
  have hs := va_P_suf t5
  have t6 := va_P_pre t5
  have he := va_P_suf t6
  have t7 := va_P_pre t6
  have hr9 := va_P_suf t7
  have t8 := va_P_pre t7
  have hb9 := va_P_suf t8
  have hk := va_P_pre t8
  exact law_run p l e s m below meth c b L xs dC dI cI cB cO cL sT eA qb qs qu qr qe qk qx qd (fun _ => ag) (fun _ => am) (fun _ => aw9) 0 (fun _ => 0) (fun _ => 0) (fun _ => 0) (fun _ => rfl) hfl hx hb hr hml hown (fun w h => (List.mem_cons.mp h).elim (fun e9 => by rw [e9]; exact hts _ tw73.1) (fun h => hts w (gT_back h).1)) hlocks hK hF hC hX hbl hL hG H _ ls _ _ (by decide) (by decide) ⟨hb9, hs, hu, hr9, he, hk⟩ (va_P.app (va_P.app hg3 hm3) hw3) hS hl
end WST
