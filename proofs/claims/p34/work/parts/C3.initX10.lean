/-! CONSTRUCTORS, on -/
section INITS
noncomputable def uI0 : US := (fun _ => 0, fun _ => bI0)
def uQ (h0 r q1 q2 q3 q4 : Nat → Nat) : Nat → Nat := fun n => if n = 0 then h0 0 else if n = 1 then r 0 else if n < 11 then q1 (n - 2) else if n < 20 then q2 (n - 11) else if n < 29 then q3 (n - 20) else q4 (n - 29)
abbrev rX10_init : Room := { frames := 3, cells := 37, slots := 528, locals := 66 }
set_option maxHeartbeats 4000000 in
set_option maxRecDepth 100000 in
theorem mX10_init (l : Launch) (dC : Nat → ClassId) (dI : Nat → Nat → Nat) (cI cB cO cL : ClassId) (N0 : Nat) (sT eA : Nat → Nat) (h0 : Nat) (sz : Nat) (hsz : N0 ≤ sz) (hh : N0 ≤ h0) : Met l yX10_init wsX10_init rX10_init (qP N0 sz sT eA (dC, dI) (tYS cI cB cO cL) [(h0, .inr (7, [.null, .int 0, .int 0]))] [.ref h0]) (va_Qv (fun _ : Unit => True) (zI (σ := Unit) (dC, dI) h0 (fun q => uw q cI cB uI0) (va_A [(h0, .inr (7, [.null, .int 0, .int 0]))] sz)) (va_A [(h0, .inr (7, [.null, .int 0, .int 0]))] sz)) 37 528 (va_A [(h0, .inr (7, [.null, .int 0, .int 0]))] sz) := by
  refine jMet (cc := cX10_init) (maxL := 2) (ret := none) [(0, .ref h0)] (by decide) rfl rfl rfl ?_
  intro p e s mi below meth c C0 hin hz hK hF hO hP ls hl
  obtain ⟨hx, hb, hr, hml, hown, hts, hlocks⟩ := id C0
  have hown : s.vm.findClass RX10 = some mi.cls := hown
  subst hz
  have hN : ∀ q : Nat, (va_A [(h0, .inr (7, [.null, .int 0, .int 0]))] s.heap.size) q → N0 ≤ q := vA_N (ws := [(h0, .inr (7, [.null, .int 0, .int 0]))]) (fun a ha => by have e9 : a = h0 := List.mem_singleton.mp ha; rw [e9]; exact hh) hsz
  have hA : ∀ q : Nat, s.heap.size ≤ q → (va_A [(h0, .inr (7, [.null, .int 0, .int 0]))] s.heap.size) q := fun q h => Or.inr h
  have hD : va_D (va_A [(h0, .inr (7, [.null, .int 0, .int 0]))] s.heap.size) ([(h0, .inr (7, [.null, .int 0, .int 0]))]) := vD1
  generalize hAe : va_A [(h0, .inr (7, [.null, .int 0, .int 0]))] s.heap.size = A at hN hA hD ⊢
  have hS : va_S A s.heap s.heap [] := va_S.rf
  have hH := hF.2.2.narrow hN
  have hP : va_P (dC, dI) vwCl ([(h0, .inr (7, [.null, .int 0, .int 0]))]) s.heap := hP
  have hin10 : ∀ w ∈ u_ws RX10 TX10 3, w ∈ wsX10_init := by decide +kernel
  have oi3 := hts (.methodLink RX10 3 objectInit) (by decide +kernel)
  have fl11 := hts (.fieldLink RX10 11 "ClickBench$UndoStack" "ring" "[LClickBench$Bench;") (by decide +kernel)
  have fl17 := hts (.fieldLink RX10 17 "ClickBench$UndoStack" "next" "I") (by decide +kernel)
  have fl21 := hts (.fieldLink RX10 21 "ClickBench$UndoStack" "depth" "I") (by decide +kernel)
  refine lv_aload_n hx hb dX10_init_0 rfl (lv_at hl 0 rfl) ?_
  refine W.objInit hx hb hown oi3 (hts (.instanceMethod objectInit) (by decide +kernel)) (hts (.code objectInit ⟨#[0xb1]⟩ 1 none) (by decide +kernel)) rfl (by rw [hml]; exact hl.1) rfl dX10_init_1 (Nat.le_of_ble_eq_true rfl) (Nat.le_of_ble_eq_true rfl) ?_
  refine lv_aload_n hx hb dX10_init_4 rfl (lv_at hl 0 rfl) ?_
  refine lv_iconst (v := 4) hx hb dX10_init_5 (by decide) ?_
  refine g_newo (tys := (tYS cI cB cO cL)) (N' := 4) hx hb hown (hts (.classLink RX10 9 RX2) (by decide +kernel)) hO.1 hK hP hD hS hA 1 rfl (by decide) (by decide) (Nat.le_of_ble_eq_true rfl) (Nat.le_of_ble_eq_true rfl) (Nat.le_of_ble_eq_true rfl) dX10_init_6 (fun r1 H hP hD hS => ?_)
  have hP : va_P (dC, dI) vwCl ([(h0, .inr (7, [.null, .int 0, .int 0]))] ++ [(r1, .inl (cB, 4, .inr (.inr (.inr (.inr (fun _ => none))))))]) H := hP
  have hD : va_D A ([(h0, .inr (7, [.null, .int 0, .int 0]))] ++ [(r1, .inl (cB, 4, .inr (.inr (.inr (.inr (fun _ => none))))))]) := hD
  refine va_putF (D := (dC, dI)) (ci := 7) (v := .ref r1) (ty := (.array (.object "ClickBench$Bench"))) (C := RX10) (T := TX10) (N := 3) hx hb hts hin10 tyX10 tyX10_ok nmX10 hown hK hP hD hS 0 rfl rfl 0 (by decide) fl11 (fun _ h9 => h9) rfl hin rfl (by decide +kernel) rfl rfl (Nat.le_of_ble_eq_true rfl) dX10_init_9 (fun H locs hP hD hS => ?_)
  have hP : va_P (dC, dI) vwCl ([(h0, .inr (7, [.ref r1, .int 0, .int 0]))] ++ [(r1, .inl (cB, 4, .inr (.inr (.inr (.inr (fun _ => none))))))]) H := hP
  have hD : va_D A ([(h0, .inr (7, [.ref r1, .int 0, .int 0]))] ++ [(r1, .inl (cB, 4, .inr (.inr (.inr (.inr (fun _ => none))))))]) := hD
  refine lv_aload_n hx hb dX10_init_12 rfl (lv_at hl 0 rfl) ?_
  refine lv_iconst (v := 0) hx hb dX10_init_13 (by decide) ?_
  refine va_put (D := (dC, dI)) (ci := 7) (v := .int 0) (ty := .int) (C := RX10) (T := TX10) (N := 3) hx hb hts hin10 tyX10 tyX10_ok nmX10 hown hK hP hD hS 0 rfl rfl 1 (by decide) fl17 (fun _ h9 => h9) rfl (by decide +kernel) rfl rfl (Nat.le_of_ble_eq_true rfl) dX10_init_14 (fun H locs hP hD hS => ?_)
  have hP : va_P (dC, dI) vwCl ([(h0, .inr (7, [.ref r1, .int 0, .int 0]))] ++ [(r1, .inl (cB, 4, .inr (.inr (.inr (.inr (fun _ => none))))))]) H := hP
  have hD : va_D A ([(h0, .inr (7, [.ref r1, .int 0, .int 0]))] ++ [(r1, .inl (cB, 4, .inr (.inr (.inr (.inr (fun _ => none))))))]) := hD
  refine lv_aload_n hx hb dX10_init_17 rfl (lv_at hl 0 rfl) ?_
  refine lv_iconst (v := 0) hx hb dX10_init_18 (by decide) ?_
  refine va_put (D := (dC, dI)) (ci := 7) (v := .int 0) (ty := .int) (C := RX10) (T := TX10) (N := 3) hx hb hts hin10 tyX10 tyX10_ok nmX10 hown hK hP hD hS 0 rfl rfl 2 (by decide) fl21 (fun _ h9 => h9) rfl (by decide +kernel) rfl rfl (Nat.le_of_ble_eq_true rfl) dX10_init_19 (fun H locs hP hD hS => ?_)
  have hP : va_P (dC, dI) vwCl ([(h0, .inr (7, [.ref r1, .int 0, .int 0]))] ++ [(r1, .inl (cB, 4, .inr (.inr (.inr (.inr (fun _ => none))))))]) H := hP
  have hD : va_D A ([(h0, .inr (7, [.ref r1, .int 0, .int 0]))] ++ [(r1, .inl (cB, 4, .inr (.inr (.inr (.inr (fun _ => none))))))]) := hD
  refine lv_iconst (v := 0) hx hb dX10_init_22 (by decide) ?_
  refine lv_istore_n (lv' := [(1, .int 0), (0, .ref h0)]) hx hb dX10_init_23 rfl hl (by decide) rfl (fun ls hl => ?_)
  refine lv_iload_n hx hb dX10_init_24 rfl (lv_at hl 0 rfl) ?_
  refine lv_iconst (v := 4) hx hb dX10_init_25 (by decide) ?_
  show W _ _ _ _ _ _ _ _ _ _ _ _ _ _ _ (F0 _ 26 _ _)
  refine lv_icmp_ge (tgt := 48) hx hb dX10_init_26 (by decide) (fun c => absurd c (show ¬ (4 : Int32) ≤ 0 by decide)) (fun c => ?_)
  refine lv_aload_n hx hb dX10_init_29 rfl (lv_at hl 1 rfl) ?_
  refine va_get (D := (dC, dI)) (ci := 7) (v := .ref r1) (C := RX10) (T := TX10) (N := 3) hx hb hts hin10 hown hK hP 0 rfl rfl 0 (by decide) fl11 (fun _ h9 => h9) rfl dX10_init_30 ?_
  refine lv_iload_n hx hb dX10_init_33 rfl (lv_at hl 0 rfl) ?_
  refine va_new (ci := 1) (fs := [.int 0, .int 0, .int 0, .int 0, .null, .null, .null, .null]) (C := RX2) (T := TX2) (N := 8) hx hb hts (by decide +kernel) tyX2 tyX2_ok hown (hts (.classLink RX10 9 RX2) (by decide +kernel)) (hts (.instantiable RX2 8) (by decide +kernel)) (hts (.initialized RX2) (by decide +kernel)) hK hP hD hS hA rfl (fun j hj => by rcases (show j = 0 ∨ j = 1 ∨ j = 2 ∨ j = 3 ∨ j = 4 ∨ j = 5 ∨ j = 6 ∨ j = 7 by omega) with rfl | rfl | rfl | rfl | rfl | rfl | rfl | rfl <;> rfl) (Nat.le_of_ble_eq_true rfl) (Nat.le_of_ble_eq_true rfl) dX10_init_34 (fun r2 H hP hD hS => ?_)
  have hP : va_P (dC, dI) vwCl ([(h0, .inr (7, [.ref r1, .int 0, .int 0]))] ++ [(r1, .inl (cB, 4, .inr (.inr (.inr (.inr (fun _ => none))))))] ++ [(r2, .inr (1, [.int 0, .int 0, .int 0, .int 0, .null, .null, .null, .null]))]) H := hP
  have hD : va_D A ([(h0, .inr (7, [.ref r1, .int 0, .int 0]))] ++ [(r1, .inl (cB, 4, .inr (.inr (.inr (.inr (fun _ => none))))))] ++ [(r2, .inr (1, [.int 0, .int 0, .int 0, .int 0, .null, .null, .null, .null]))]) := hD
  refine lv_dup hx hb dX10_init_37 rfl ?_
  have hPc := hP.sub (ws' := [(r2, .inr (1, [.int 0, .int 0, .int 0, .int 0, .null, .null, .null, .null]))]) [2] rfl
  have hFc := va_free (wc := [(r2, .inr (1, [.int 0, .int 0, .int 0, .int 0, .null, .null, .null, .null]))]) hD hS hA [2] rfl
  refine va_callv (va_runI (As := []) (rest := [.ref r2, .int 0, .ref r1]) ⟨hx, hb, hml, hown, hts⟩ (mX2_init l dC dI cI cB cO cL N0 sT eA r2 H.size (Nat.le_trans hsz hS.1) (hN _ (hD.2 2 _ rfl))) (cwI 0 hts gX10_init_X2_init rfl rfl rfl (hts (.initialized RX2) (by decide +kernel)) (hts (.methodLink RX10 24 yX2_init) (by decide +kernel)) (hts (.instanceMethod yX2_init) (by decide +kernel)) rfl (by decide +kernel) ⟨Nat.le_of_ble_eq_true rfl, Nat.le_of_ble_eq_true rfl⟩) ⟨qP_blind, qP_ok hPc hK hF hO hS hN⟩ rfl rfl hl.1 rfl (lv_room (Nat.le_of_ble_eq_true rfl)) dX10_init_38 ⟨Nat.le_of_ble_eq_true rfl, Nat.le_of_ble_eq_true rfl⟩) hS (fun q9 _ h9 => hFc q9 h9) hFc (fun u9 t9 H1 locs ht9 hvm9 hw9 hB9 hz9 hk9 hS => ?_)
  obtain ⟨q3, eq3, hP1, hD1⟩ := hB9
  rw [ht9] at hP1
  obtain ⟨hPn, hDn⟩ := va_join (wr := [(h0, .inr (7, [.ref r1, .int 0, .int 0]))] ++ [(r1, .inl (cB, 4, .inr (.inr (.inr (.inr (fun _ => none))))))]) (w1 := bw q3 cI bI0) hP hD [2] [0, 1] rfl rfl (by decide) (by decide) hk9 hFc hP1 hD1
  generalize H1 = H at hPn hS ⊢
  subst eq3
  have hP := hPn
  have hD := hDn
  have hP : va_P (dC, dI) vwCl ([(h0, .inr (7, [.ref r1, .int 0, .int 0]))] ++ [(r1, .inl (cB, 4, .inr (.inr (.inr (.inr (fun _ => none))))))] ++ bw q3 cI bI0) H := hP
  have hD : va_D A ([(h0, .inr (7, [.ref r1, .int 0, .int 0]))] ++ [(r1, .inl (cB, 4, .inr (.inr (.inr (.inr (fun _ => none))))))] ++ bw q3 cI bI0) := hD
  refine va_astq (D := (dC, dI)) (tys := (tYS cI cB cO cL)) hx hb hK hP hD hS 1 1 2 1 rfl rfl rfl rfl (vp_in_n (i := 0) (by omega) (by omega)) dX10_init_41 (fun H locs hP hD hS => ?_)
  have hP : va_P (dC, dI) vwCl ([(h0, .inr (7, [.ref r1, .int 0, .int 0]))] ++ [(r1, .inl (cB, 4, .inr (.inr (.inr (.inr (va_up (fun _ => none) 0 (some (q3 0))))))))] ++ bw q3 cI bI0) H := hP
  have hD : va_D A ([(h0, .inr (7, [.ref r1, .int 0, .int 0]))] ++ [(r1, .inl (cB, 4, .inr (.inr (.inr (.inr (va_up (fun _ => none) 0 (some (q3 0))))))))] ++ bw q3 cI bI0) := hD
  refine lv_iinc (v := 1) (lv' := [(1, .int 1), (0, .ref h0)]) hx hb dX10_init_42 hl (k := 0) rfl (by decide) (by decide) rfl (fun ls hl => ?_)
  show W _ _ _ _ _ _ _ _ _ _ _ _ _ _ _ (F0 _ 45 _ _)
  refine lv_goto (tgt := 24) hx hb dX10_init_45 (by decide) ?_
  refine lv_iload_n hx hb dX10_init_24 rfl (lv_at hl 0 rfl) ?_
  refine lv_iconst (v := 4) hx hb dX10_init_25 (by decide) ?_
  show W _ _ _ _ _ _ _ _ _ _ _ _ _ _ _ (F0 _ 26 _ _)
  refine lv_icmp_ge (tgt := 48) hx hb dX10_init_26 (by decide) (fun c => absurd c (show ¬ (4 : Int32) ≤ 1 by decide)) (fun c => ?_)
  refine lv_aload_n hx hb dX10_init_29 rfl (lv_at hl 1 rfl) ?_
  refine va_get (D := (dC, dI)) (ci := 7) (v := .ref r1) (C := RX10) (T := TX10) (N := 3) hx hb hts hin10 hown hK hP 0 rfl rfl 0 (by decide) fl11 (fun _ h9 => h9) rfl dX10_init_30 ?_
  refine lv_iload_n hx hb dX10_init_33 rfl (lv_at hl 0 rfl) ?_
  refine va_new (ci := 1) (fs := [.int 0, .int 0, .int 0, .int 0, .null, .null, .null, .null]) (C := RX2) (T := TX2) (N := 8) hx hb hts (by decide +kernel) tyX2 tyX2_ok hown (hts (.classLink RX10 9 RX2) (by decide +kernel)) (hts (.instantiable RX2 8) (by decide +kernel)) (hts (.initialized RX2) (by decide +kernel)) hK hP hD hS hA rfl (fun j hj => by rcases (show j = 0 ∨ j = 1 ∨ j = 2 ∨ j = 3 ∨ j = 4 ∨ j = 5 ∨ j = 6 ∨ j = 7 by omega) with rfl | rfl | rfl | rfl | rfl | rfl | rfl | rfl <;> rfl) (Nat.le_of_ble_eq_true rfl) (Nat.le_of_ble_eq_true rfl) dX10_init_34 (fun r4 H hP hD hS => ?_)
  have hP : va_P (dC, dI) vwCl ([(h0, .inr (7, [.ref r1, .int 0, .int 0]))] ++ [(r1, .inl (cB, 4, .inr (.inr (.inr (.inr (va_up (fun _ => none) 0 (some (q3 0))))))))] ++ bw q3 cI bI0 ++ [(r4, .inr (1, [.int 0, .int 0, .int 0, .int 0, .null, .null, .null, .null]))]) H := hP
  have hD : va_D A ([(h0, .inr (7, [.ref r1, .int 0, .int 0]))] ++ [(r1, .inl (cB, 4, .inr (.inr (.inr (.inr (va_up (fun _ => none) 0 (some (q3 0))))))))] ++ bw q3 cI bI0 ++ [(r4, .inr (1, [.int 0, .int 0, .int 0, .int 0, .null, .null, .null, .null]))]) := hD
  refine lv_dup hx hb dX10_init_37 rfl ?_
  have hPc := hP.sub (ws' := [(r4, .inr (1, [.int 0, .int 0, .int 0, .int 0, .null, .null, .null, .null]))]) [11] rfl
  have hFc := va_free (wc := [(r4, .inr (1, [.int 0, .int 0, .int 0, .int 0, .null, .null, .null, .null]))]) hD hS hA [11] rfl
  refine va_callv (va_runI (As := []) (rest := [.ref r4, .int 1, .ref r1]) ⟨hx, hb, hml, hown, hts⟩ (mX2_init l dC dI cI cB cO cL N0 sT eA r4 H.size (Nat.le_trans hsz hS.1) (hN _ (hD.2 11 _ rfl))) (cwI 0 hts gX10_init_X2_init rfl rfl rfl (hts (.initialized RX2) (by decide +kernel)) (hts (.methodLink RX10 24 yX2_init) (by decide +kernel)) (hts (.instanceMethod yX2_init) (by decide +kernel)) rfl (by decide +kernel) ⟨Nat.le_of_ble_eq_true rfl, Nat.le_of_ble_eq_true rfl⟩) ⟨qP_blind, qP_ok hPc hK hF hO hS hN⟩ rfl rfl hl.1 rfl (lv_room (Nat.le_of_ble_eq_true rfl)) dX10_init_38 ⟨Nat.le_of_ble_eq_true rfl, Nat.le_of_ble_eq_true rfl⟩) hS (fun q9 _ h9 => hFc q9 h9) hFc (fun u9 t9 H1 locs ht9 hvm9 hw9 hB9 hz9 hk9 hS => ?_)
  obtain ⟨q5, eq5, hP1, hD1⟩ := hB9
  rw [ht9] at hP1
  obtain ⟨hPn, hDn⟩ := va_join (wr := [(h0, .inr (7, [.ref r1, .int 0, .int 0]))] ++ [(r1, .inl (cB, 4, .inr (.inr (.inr (.inr (va_up (fun _ => none) 0 (some (q3 0))))))))] ++ bw q3 cI bI0) (w1 := bw q5 cI bI0) hP hD [11] [0, 1, 2, 3, 4, 5, 6, 7, 8, 9, 10] rfl rfl (by decide) (by decide) hk9 hFc hP1 hD1
  generalize H1 = H at hPn hS ⊢
  subst eq5
  have hP := hPn
  have hD := hDn
  have hP : va_P (dC, dI) vwCl ([(h0, .inr (7, [.ref r1, .int 0, .int 0]))] ++ [(r1, .inl (cB, 4, .inr (.inr (.inr (.inr (va_up (fun _ => none) 0 (some (q3 0))))))))] ++ bw q3 cI bI0 ++ bw q5 cI bI0) H := hP
  have hD : va_D A ([(h0, .inr (7, [.ref r1, .int 0, .int 0]))] ++ [(r1, .inl (cB, 4, .inr (.inr (.inr (.inr (va_up (fun _ => none) 0 (some (q3 0))))))))] ++ bw q3 cI bI0 ++ bw q5 cI bI0) := hD
  refine va_astq (D := (dC, dI)) (tys := (tYS cI cB cO cL)) hx hb hK hP hD hS 1 1 11 1 rfl rfl rfl rfl (vp_in_n (i := 1) (by omega) (by omega)) dX10_init_41 (fun H locs hP hD hS => ?_)
  have hP : va_P (dC, dI) vwCl ([(h0, .inr (7, [.ref r1, .int 0, .int 0]))] ++ [(r1, .inl (cB, 4, .inr (.inr (.inr (.inr (va_up (va_up (fun _ => none) 0 (some (q3 0))) 1 (some (q5 0))))))))] ++ bw q3 cI bI0 ++ bw q5 cI bI0) H := hP
  have hD : va_D A ([(h0, .inr (7, [.ref r1, .int 0, .int 0]))] ++ [(r1, .inl (cB, 4, .inr (.inr (.inr (.inr (va_up (va_up (fun _ => none) 0 (some (q3 0))) 1 (some (q5 0))))))))] ++ bw q3 cI bI0 ++ bw q5 cI bI0) := hD
  refine lv_iinc (v := 2) (lv' := [(1, .int 2), (0, .ref h0)]) hx hb dX10_init_42 hl (k := 0) rfl (by decide) (by decide) rfl (fun ls hl => ?_)
  show W _ _ _ _ _ _ _ _ _ _ _ _ _ _ _ (F0 _ 45 _ _)
  refine lv_goto (tgt := 24) hx hb dX10_init_45 (by decide) ?_
  refine lv_iload_n hx hb dX10_init_24 rfl (lv_at hl 0 rfl) ?_
  refine lv_iconst (v := 4) hx hb dX10_init_25 (by decide) ?_
  show W _ _ _ _ _ _ _ _ _ _ _ _ _ _ _ (F0 _ 26 _ _)
  refine lv_icmp_ge (tgt := 48) hx hb dX10_init_26 (by decide) (fun c => absurd c (show ¬ (4 : Int32) ≤ 2 by decide)) (fun c => ?_)
  refine lv_aload_n hx hb dX10_init_29 rfl (lv_at hl 1 rfl) ?_
  refine va_get (D := (dC, dI)) (ci := 7) (v := .ref r1) (C := RX10) (T := TX10) (N := 3) hx hb hts hin10 hown hK hP 0 rfl rfl 0 (by decide) fl11 (fun _ h9 => h9) rfl dX10_init_30 ?_
  refine lv_iload_n hx hb dX10_init_33 rfl (lv_at hl 0 rfl) ?_
  refine va_new (ci := 1) (fs := [.int 0, .int 0, .int 0, .int 0, .null, .null, .null, .null]) (C := RX2) (T := TX2) (N := 8) hx hb hts (by decide +kernel) tyX2 tyX2_ok hown (hts (.classLink RX10 9 RX2) (by decide +kernel)) (hts (.instantiable RX2 8) (by decide +kernel)) (hts (.initialized RX2) (by decide +kernel)) hK hP hD hS hA rfl (fun j hj => by rcases (show j = 0 ∨ j = 1 ∨ j = 2 ∨ j = 3 ∨ j = 4 ∨ j = 5 ∨ j = 6 ∨ j = 7 by omega) with rfl | rfl | rfl | rfl | rfl | rfl | rfl | rfl <;> rfl) (Nat.le_of_ble_eq_true rfl) (Nat.le_of_ble_eq_true rfl) dX10_init_34 (fun r6 H hP hD hS => ?_)
  have hP : va_P (dC, dI) vwCl ([(h0, .inr (7, [.ref r1, .int 0, .int 0]))] ++ [(r1, .inl (cB, 4, .inr (.inr (.inr (.inr (va_up (va_up (fun _ => none) 0 (some (q3 0))) 1 (some (q5 0))))))))] ++ bw q3 cI bI0 ++ bw q5 cI bI0 ++ [(r6, .inr (1, [.int 0, .int 0, .int 0, .int 0, .null, .null, .null, .null]))]) H := hP
  have hD : va_D A ([(h0, .inr (7, [.ref r1, .int 0, .int 0]))] ++ [(r1, .inl (cB, 4, .inr (.inr (.inr (.inr (va_up (va_up (fun _ => none) 0 (some (q3 0))) 1 (some (q5 0))))))))] ++ bw q3 cI bI0 ++ bw q5 cI bI0 ++ [(r6, .inr (1, [.int 0, .int 0, .int 0, .int 0, .null, .null, .null, .null]))]) := hD
  refine lv_dup hx hb dX10_init_37 rfl ?_
  have hPc := hP.sub (ws' := [(r6, .inr (1, [.int 0, .int 0, .int 0, .int 0, .null, .null, .null, .null]))]) [20] rfl
  have hFc := va_free (wc := [(r6, .inr (1, [.int 0, .int 0, .int 0, .int 0, .null, .null, .null, .null]))]) hD hS hA [20] rfl
  refine va_callv (va_runI (As := []) (rest := [.ref r6, .int 2, .ref r1]) ⟨hx, hb, hml, hown, hts⟩ (mX2_init l dC dI cI cB cO cL N0 sT eA r6 H.size (Nat.le_trans hsz hS.1) (hN _ (hD.2 20 _ rfl))) (cwI 0 hts gX10_init_X2_init rfl rfl rfl (hts (.initialized RX2) (by decide +kernel)) (hts (.methodLink RX10 24 yX2_init) (by decide +kernel)) (hts (.instanceMethod yX2_init) (by decide +kernel)) rfl (by decide +kernel) ⟨Nat.le_of_ble_eq_true rfl, Nat.le_of_ble_eq_true rfl⟩) ⟨qP_blind, qP_ok hPc hK hF hO hS hN⟩ rfl rfl hl.1 rfl (lv_room (Nat.le_of_ble_eq_true rfl)) dX10_init_38 ⟨Nat.le_of_ble_eq_true rfl, Nat.le_of_ble_eq_true rfl⟩) hS (fun q9 _ h9 => hFc q9 h9) hFc (fun u9 t9 H1 locs ht9 hvm9 hw9 hB9 hz9 hk9 hS => ?_)
  obtain ⟨q7, eq7, hP1, hD1⟩ := hB9
  rw [ht9] at hP1
  obtain ⟨hPn, hDn⟩ := va_join (wr := [(h0, .inr (7, [.ref r1, .int 0, .int 0]))] ++ [(r1, .inl (cB, 4, .inr (.inr (.inr (.inr (va_up (va_up (fun _ => none) 0 (some (q3 0))) 1 (some (q5 0))))))))] ++ bw q3 cI bI0 ++ bw q5 cI bI0) (w1 := bw q7 cI bI0) hP hD [20] [0, 1, 2, 3, 4, 5, 6, 7, 8, 9, 10, 11, 12, 13, 14, 15, 16, 17, 18, 19] rfl rfl (by decide) (by decide) hk9 hFc hP1 hD1
  generalize H1 = H at hPn hS ⊢
  subst eq7
  have hP := hPn
  have hD := hDn
  have hP : va_P (dC, dI) vwCl ([(h0, .inr (7, [.ref r1, .int 0, .int 0]))] ++ [(r1, .inl (cB, 4, .inr (.inr (.inr (.inr (va_up (va_up (fun _ => none) 0 (some (q3 0))) 1 (some (q5 0))))))))] ++ bw q3 cI bI0 ++ bw q5 cI bI0 ++ bw q7 cI bI0) H := hP
  have hD : va_D A ([(h0, .inr (7, [.ref r1, .int 0, .int 0]))] ++ [(r1, .inl (cB, 4, .inr (.inr (.inr (.inr (va_up (va_up (fun _ => none) 0 (some (q3 0))) 1 (some (q5 0))))))))] ++ bw q3 cI bI0 ++ bw q5 cI bI0 ++ bw q7 cI bI0) := hD
  refine va_astq (D := (dC, dI)) (tys := (tYS cI cB cO cL)) hx hb hK hP hD hS 1 1 20 1 rfl rfl rfl rfl (vp_in_n (i := 2) (by omega) (by omega)) dX10_init_41 (fun H locs hP hD hS => ?_)
  have hP : va_P (dC, dI) vwCl ([(h0, .inr (7, [.ref r1, .int 0, .int 0]))] ++ [(r1, .inl (cB, 4, .inr (.inr (.inr (.inr (va_up (va_up (va_up (fun _ => none) 0 (some (q3 0))) 1 (some (q5 0))) 2 (some (q7 0))))))))] ++ bw q3 cI bI0 ++ bw q5 cI bI0 ++ bw q7 cI bI0) H := hP
  have hD : va_D A ([(h0, .inr (7, [.ref r1, .int 0, .int 0]))] ++ [(r1, .inl (cB, 4, .inr (.inr (.inr (.inr (va_up (va_up (va_up (fun _ => none) 0 (some (q3 0))) 1 (some (q5 0))) 2 (some (q7 0))))))))] ++ bw q3 cI bI0 ++ bw q5 cI bI0 ++ bw q7 cI bI0) := hD
  refine lv_iinc (v := 3) (lv' := [(1, .int 3), (0, .ref h0)]) hx hb dX10_init_42 hl (k := 0) rfl (by decide) (by decide) rfl (fun ls hl => ?_)
  show W _ _ _ _ _ _ _ _ _ _ _ _ _ _ _ (F0 _ 45 _ _)
  refine lv_goto (tgt := 24) hx hb dX10_init_45 (by decide) ?_
  refine lv_iload_n hx hb dX10_init_24 rfl (lv_at hl 0 rfl) ?_
  refine lv_iconst (v := 4) hx hb dX10_init_25 (by decide) ?_
  show W _ _ _ _ _ _ _ _ _ _ _ _ _ _ _ (F0 _ 26 _ _)
  refine lv_icmp_ge (tgt := 48) hx hb dX10_init_26 (by decide) (fun c => absurd c (show ¬ (4 : Int32) ≤ 3 by decide)) (fun c => ?_)
  refine lv_aload_n hx hb dX10_init_29 rfl (lv_at hl 1 rfl) ?_
  refine va_get (D := (dC, dI)) (ci := 7) (v := .ref r1) (C := RX10) (T := TX10) (N := 3) hx hb hts hin10 hown hK hP 0 rfl rfl 0 (by decide) fl11 (fun _ h9 => h9) rfl dX10_init_30 ?_
  refine lv_iload_n hx hb dX10_init_33 rfl (lv_at hl 0 rfl) ?_
  refine va_new (ci := 1) (fs := [.int 0, .int 0, .int 0, .int 0, .null, .null, .null, .null]) (C := RX2) (T := TX2) (N := 8) hx hb hts (by decide +kernel) tyX2 tyX2_ok hown (hts (.classLink RX10 9 RX2) (by decide +kernel)) (hts (.instantiable RX2 8) (by decide +kernel)) (hts (.initialized RX2) (by decide +kernel)) hK hP hD hS hA rfl (fun j hj => by rcases (show j = 0 ∨ j = 1 ∨ j = 2 ∨ j = 3 ∨ j = 4 ∨ j = 5 ∨ j = 6 ∨ j = 7 by omega) with rfl | rfl | rfl | rfl | rfl | rfl | rfl | rfl <;> rfl) (Nat.le_of_ble_eq_true rfl) (Nat.le_of_ble_eq_true rfl) dX10_init_34 (fun r8 H hP hD hS => ?_)
  have hP : va_P (dC, dI) vwCl ([(h0, .inr (7, [.ref r1, .int 0, .int 0]))] ++ [(r1, .inl (cB, 4, .inr (.inr (.inr (.inr (va_up (va_up (va_up (fun _ => none) 0 (some (q3 0))) 1 (some (q5 0))) 2 (some (q7 0))))))))] ++ bw q3 cI bI0 ++ bw q5 cI bI0 ++ bw q7 cI bI0 ++ [(r8, .inr (1, [.int 0, .int 0, .int 0, .int 0, .null, .null, .null, .null]))]) H := hP
  have hD : va_D A ([(h0, .inr (7, [.ref r1, .int 0, .int 0]))] ++ [(r1, .inl (cB, 4, .inr (.inr (.inr (.inr (va_up (va_up (va_up (fun _ => none) 0 (some (q3 0))) 1 (some (q5 0))) 2 (some (q7 0))))))))] ++ bw q3 cI bI0 ++ bw q5 cI bI0 ++ bw q7 cI bI0 ++ [(r8, .inr (1, [.int 0, .int 0, .int 0, .int 0, .null, .null, .null, .null]))]) := hD
  refine lv_dup hx hb dX10_init_37 rfl ?_
  have hPc := hP.sub (ws' := [(r8, .inr (1, [.int 0, .int 0, .int 0, .int 0, .null, .null, .null, .null]))]) [29] rfl
  have hFc := va_free (wc := [(r8, .inr (1, [.int 0, .int 0, .int 0, .int 0, .null, .null, .null, .null]))]) hD hS hA [29] rfl
  refine va_callv (va_runI (As := []) (rest := [.ref r8, .int 3, .ref r1]) ⟨hx, hb, hml, hown, hts⟩ (mX2_init l dC dI cI cB cO cL N0 sT eA r8 H.size (Nat.le_trans hsz hS.1) (hN _ (hD.2 29 _ rfl))) (cwI 0 hts gX10_init_X2_init rfl rfl rfl (hts (.initialized RX2) (by decide +kernel)) (hts (.methodLink RX10 24 yX2_init) (by decide +kernel)) (hts (.instanceMethod yX2_init) (by decide +kernel)) rfl (by decide +kernel) ⟨Nat.le_of_ble_eq_true rfl, Nat.le_of_ble_eq_true rfl⟩) ⟨qP_blind, qP_ok hPc hK hF hO hS hN⟩ rfl rfl hl.1 rfl (lv_room (Nat.le_of_ble_eq_true rfl)) dX10_init_38 ⟨Nat.le_of_ble_eq_true rfl, Nat.le_of_ble_eq_true rfl⟩) hS (fun q9 _ h9 => hFc q9 h9) hFc (fun u9 t9 H1 locs ht9 hvm9 hw9 hB9 hz9 hk9 hS => ?_)
  obtain ⟨q9, eq9, hP1, hD1⟩ := hB9
  rw [ht9] at hP1
  obtain ⟨hPn, hDn⟩ := va_join (wr := [(h0, .inr (7, [.ref r1, .int 0, .int 0]))] ++ [(r1, .inl (cB, 4, .inr (.inr (.inr (.inr (va_up (va_up (va_up (fun _ => none) 0 (some (q3 0))) 1 (some (q5 0))) 2 (some (q7 0))))))))] ++ bw q3 cI bI0 ++ bw q5 cI bI0 ++ bw q7 cI bI0) (w1 := bw q9 cI bI0) hP hD [29] [0, 1, 2, 3, 4, 5, 6, 7, 8, 9, 10, 11, 12, 13, 14, 15, 16, 17, 18, 19, 20, 21, 22, 23, 24, 25, 26, 27, 28] rfl rfl (by decide) (by decide) hk9 hFc hP1 hD1
  generalize H1 = H at hPn hS ⊢
  subst eq9
  have hP := hPn
  have hD := hDn
  have hP : va_P (dC, dI) vwCl ([(h0, .inr (7, [.ref r1, .int 0, .int 0]))] ++ [(r1, .inl (cB, 4, .inr (.inr (.inr (.inr (va_up (va_up (va_up (fun _ => none) 0 (some (q3 0))) 1 (some (q5 0))) 2 (some (q7 0))))))))] ++ bw q3 cI bI0 ++ bw q5 cI bI0 ++ bw q7 cI bI0 ++ bw q9 cI bI0) H := hP
  have hD : va_D A ([(h0, .inr (7, [.ref r1, .int 0, .int 0]))] ++ [(r1, .inl (cB, 4, .inr (.inr (.inr (.inr (va_up (va_up (va_up (fun _ => none) 0 (some (q3 0))) 1 (some (q5 0))) 2 (some (q7 0))))))))] ++ bw q3 cI bI0 ++ bw q5 cI bI0 ++ bw q7 cI bI0 ++ bw q9 cI bI0) := hD
  refine va_astq (D := (dC, dI)) (tys := (tYS cI cB cO cL)) hx hb hK hP hD hS 1 1 29 1 rfl rfl rfl rfl (vp_in_n (i := 3) (by omega) (by omega)) dX10_init_41 (fun H locs hP hD hS => ?_)
  have hP : va_P (dC, dI) vwCl ([(h0, .inr (7, [.ref r1, .int 0, .int 0]))] ++ [(r1, .inl (cB, 4, .inr (.inr (.inr (.inr (va_up (va_up (va_up (va_up (fun _ => none) 0 (some (q3 0))) 1 (some (q5 0))) 2 (some (q7 0))) 3 (some (q9 0))))))))] ++ bw q3 cI bI0 ++ bw q5 cI bI0 ++ bw q7 cI bI0 ++ bw q9 cI bI0) H := hP
  have hD : va_D A ([(h0, .inr (7, [.ref r1, .int 0, .int 0]))] ++ [(r1, .inl (cB, 4, .inr (.inr (.inr (.inr (va_up (va_up (va_up (va_up (fun _ => none) 0 (some (q3 0))) 1 (some (q5 0))) 2 (some (q7 0))) 3 (some (q9 0))))))))] ++ bw q3 cI bI0 ++ bw q5 cI bI0 ++ bw q7 cI bI0 ++ bw q9 cI bI0) := hD
  refine lv_iinc (v := 4) (lv' := [(1, .int 4), (0, .ref h0)]) hx hb dX10_init_42 hl (k := 0) rfl (by decide) (by decide) rfl (fun ls hl => ?_)
  show W _ _ _ _ _ _ _ _ _ _ _ _ _ _ _ (F0 _ 45 _ _)
  refine lv_goto (tgt := 24) hx hb dX10_init_45 (by decide) ?_
  refine lv_iload_n hx hb dX10_init_24 rfl (lv_at hl 0 rfl) ?_
  refine lv_iconst (v := 4) hx hb dX10_init_25 (by decide) ?_
  show W _ _ _ _ _ _ _ _ _ _ _ _ _ _ _ (F0 _ 26 _ _)
  refine lv_icmp_ge (tgt := 48) hx hb dX10_init_26 (by decide) (fun c => ?_) (fun c => absurd (show (4 : Int32) ≤ 4 by decide) c)
  have hP := va_P_q hP 1 rfl (g := fun k => some ((uQ (fun _ => h0) (fun _ => r1) q3 q5 q7 q9) (2 + 9 * k))) (fun j hj => by rcases (show j = 0 ∨ j = 1 ∨ j = 2 ∨ j = 3 by omega) with rfl | rfl | rfl | rfl <;> rfl)
  exact e_iv C0 (Wd := fun q => uw q cI cB uI0) (q := uQ (fun _ => h0) (fun _ => r1) q3 q5 q7 q9) rfl hP (gD_va (gD_w hD) rfl) hS (Nat.le_of_ble_eq_true rfl) (Nat.le_of_ble_eq_true rfl) dX10_init_48
end INITS
