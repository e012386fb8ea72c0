/-! CONSTRUCTORS, on -/
section INITS
def zX (D : va_G) (h0 : Nat) (eA : Nat → Nat) (cI cB cO : ClassId) (A : Nat → Prop) : Unit → State → Prop := fun _ t => ∃ qk qb qr qe qs qu qx qd : Nat → Nat, qk 0 = h0 ∧ va_P D vwCl (kw qk qb qr qe qs qu qx qd cI 0 ++ bw qb cI bI0 ++ aw qr cI ((0 : Int32), (fun _ => 0)) ++ ew qe cI ((0 : Int32), (fun _ => 0)) ++ sw qs cI sI0 ++ uw qu cI cB uI0 ++ xw qx cI ((0 : Int32), (fun _ => 0)) ++ dw qd cI cO eA dI0) t.heap ∧ va_D A (kw qk qb qr qe qs qu qx qd cI 0 ++ bw qb cI bI0 ++ aw qr cI ((0 : Int32), (fun _ => 0)) ++ ew qe cI ((0 : Int32), (fun _ => 0)) ++ sw qs cI sI0 ++ uw qu cI cB uI0 ++ xw qx cI ((0 : Int32), (fun _ => 0)) ++ dw qd cI cO eA dI0)
abbrev rX11_init : Room := { frames := 4, cells := 64, slots := 1952, locals := 87 }
set_option maxHeartbeats 4000000 in
set_option maxRecDepth 100000 in
theorem mX11_init (l : Launch) (dC : Nat → ClassId) (dI : Nat → Nat → Nat) (cI cB cO cL : ClassId) (N0 : Nat) (sT eA : Nat → Nat) (h0 : Nat) (sz : Nat) (hsz : N0 ≤ sz) (hh : N0 ≤ h0) : Met l yX11_init wsX11_init rX11_init (qP N0 sz sT eA (dC, dI) (tYS cI cB cO cL) [(h0, .inr (8, [.null, .null, .null, .null, .null, .null, .null, .int 0]))] [.ref h0]) (va_Qv (fun _ : Unit => True) (zX (dC, dI) h0 eA cI cB cO (va_A [(h0, .inr (8, [.null, .null, .null, .null, .null, .null, .null, .int 0]))] sz)) (va_A [(h0, .inr (8, [.null, .null, .null, .null, .null, .null, .null, .int 0]))] sz)) 64 1952 (va_A [(h0, .inr (8, [.null, .null, .null, .null, .null, .null, .null, .int 0]))] sz) := by
  refine jMet (cc := cX11_init) (maxL := 1) (ret := none) [(0, .ref h0)] (by decide) rfl rfl rfl ?_
  intro p e s mi below meth c C0 hin hz hK hF hO hP ls hl
  obtain ⟨hx, hb, hr, hml, hown, hts, hlocks⟩ := id C0
  have hown : s.vm.findClass RX11 = some mi.cls := hown
  subst hz
  have hN : ∀ q : Nat, (va_A [(h0, .inr (8, [.null, .null, .null, .null, .null, .null, .null, .int 0]))] s.heap.size) q → N0 ≤ q := vA_N (ws := [(h0, .inr (8, [.null, .null, .null, .null, .null, .null, .null, .int 0]))]) (fun a ha => by have e9 : a = h0 := List.mem_singleton.mp ha; rw [e9]; exact hh) hsz
  have hA : ∀ q : Nat, s.heap.size ≤ q → (va_A [(h0, .inr (8, [.null, .null, .null, .null, .null, .null, .null, .int 0]))] s.heap.size) q := fun q h => Or.inr h
  have hD : va_D (va_A [(h0, .inr (8, [.null, .null, .null, .null, .null, .null, .null, .int 0]))] s.heap.size) ([(h0, .inr (8, [.null, .null, .null, .null, .null, .null, .null, .int 0]))]) := vD1
  generalize hAe : va_A [(h0, .inr (8, [.null, .null, .null, .null, .null, .null, .null, .int 0]))] s.heap.size = A at hN hA hD ⊢
  have hS : va_S A s.heap s.heap [] := va_S.rf
  have hH := hF.2.2.narrow hN
  have hP : va_P (dC, dI) vwCl ([(h0, .inr (8, [.null, .null, .null, .null, .null, .null, .null, .int 0]))]) s.heap := hP
  have hin11 : ∀ w ∈ u_ws RX11 TX11 8, w ∈ wsX11_init := by decide +kernel
  have oi1 := hts (.methodLink RX11 1 objectInit) (by decide +kernel)
  have fl10 := hts (.fieldLink RX11 10 "ClickBench" "bench" "LClickBench$Bench;") (by decide +kernel)
  have fl19 := hts (.fieldLink RX11 19 "ClickBench" "reached" "LClickBench$Arrivals;") (by decide +kernel)
  have fl26 := hts (.fieldLink RX11 26 "ClickBench" "ear" "LClickBench$Ear;") (by decide +kernel)
  have fl33 := hts (.fieldLink RX11 33 "ClickBench" "survey" "LClickBench$Survey;") (by decide +kernel)
  have fl40 := hts (.fieldLink RX11 40 "ClickBench" "saved" "LClickBench$UndoStack;") (by decide +kernel)
  have fl47 := hts (.fieldLink RX11 47 "ClickBench" "text" "LClickBench$CommandText;") (by decide +kernel)
  have fl54 := hts (.fieldLink RX11 54 "ClickBench" "reader" "LClickBench$CommandReader;") (by decide +kernel)
  have fl58 := hts (.fieldLink RX11 58 "ClickBench" "latestStop" "I") (by decide +kernel)
  refine lv_aload_n hx hb dX11_init_0 rfl (lv_at hl 0 rfl) ?_
  refine W.objInit hx hb hown oi1 (hts (.instanceMethod objectInit) (by decide +kernel)) (hts (.code objectInit ⟨#[0xb1]⟩ 1 none) (by decide +kernel)) rfl (by rw [hml]; exact hl.1) rfl dX11_init_1 (Nat.le_of_ble_eq_true rfl) (Nat.le_of_ble_eq_true rfl) ?_
  refine lv_aload_n hx hb dX11_init_4 rfl (lv_at hl 0 rfl) ?_
  refine va_new (ci := 1) (fs := [.int 0, .int 0, .int 0, .int 0, .null, .null, .null, .null]) (C := RX2) (T := TX2) (N := 8) hx hb hts (by decide +kernel) tyX2 tyX2_ok hown (hts (.classLink RX11 7 RX2) (by decide +kernel)) (hts (.instantiable RX2 8) (by decide +kernel)) (hts (.initialized RX2) (by decide +kernel)) hK hP hD hS hA rfl (fun j hj => by rcases (show j = 0 ∨ j = 1 ∨ j = 2 ∨ j = 3 ∨ j = 4 ∨ j = 5 ∨ j = 6 ∨ j = 7 by omega) with rfl | rfl | rfl | rfl | rfl | rfl | rfl | rfl <;> rfl) (Nat.le_of_ble_eq_true rfl) (Nat.le_of_ble_eq_true rfl) dX11_init_5 (fun r1 H hP hD hS => ?_)
  have hP : va_P (dC, dI) vwCl ([(h0, .inr (8, [.null, .null, .null, .null, .null, .null, .null, .int 0]))] ++ [(r1, .inr (1, [.int 0, .int 0, .int 0, .int 0, .null, .null, .null, .null]))]) H := hP
  have hD : va_D A ([(h0, .inr (8, [.null, .null, .null, .null, .null, .null, .null, .int 0]))] ++ [(r1, .inr (1, [.int 0, .int 0, .int 0, .int 0, .null, .null, .null, .null]))]) := hD
  refine lv_dup hx hb dX11_init_8 rfl ?_
  have hPc := hP.sub (ws' := [(r1, .inr (1, [.int 0, .int 0, .int 0, .int 0, .null, .null, .null, .null]))]) [1] rfl
  have hFc := va_free (wc := [(r1, .inr (1, [.int 0, .int 0, .int 0, .int 0, .null, .null, .null, .null]))]) hD hS hA [1] rfl
  refine va_callv (va_runI (As := []) (rest := [.ref r1, .ref h0]) ⟨hx, hb, hml, hown, hts⟩ (mX2_init l dC dI cI cB cO cL N0 sT eA r1 H.size (Nat.le_trans hsz hS.1) (hN _ (hD.2 1 _ rfl))) (cwI 0 hts gX11_init_X2_init rfl rfl rfl (hts (.initialized RX2) (by decide +kernel)) (hts (.methodLink RX11 9 yX2_init) (by decide +kernel)) (hts (.instanceMethod yX2_init) (by decide +kernel)) rfl (by decide +kernel) ⟨Nat.le_of_ble_eq_true rfl, Nat.le_of_ble_eq_true rfl⟩) ⟨qP_blind, qP_ok hPc hK hF hO hS hN⟩ rfl rfl hl.1 rfl (lv_room (Nat.le_of_ble_eq_true rfl)) dX11_init_9 ⟨Nat.le_of_ble_eq_true rfl, Nat.le_of_ble_eq_true rfl⟩) hS (fun q9 _ h9 => hFc q9 h9) hFc (fun u9 t9 H1 locs ht9 hvm9 hw9 hB9 hz9 hk9 hS => ?_)
  obtain ⟨q2, eq2, hP1, hD1⟩ := hB9
  rw [ht9] at hP1
  obtain ⟨hPn, hDn⟩ := va_join (wr := [(h0, .inr (8, [.null, .null, .null, .null, .null, .null, .null, .int 0]))]) (w1 := bw q2 cI bI0) hP hD [1] [0] rfl rfl (by decide) (by decide) hk9 hFc hP1 hD1
  generalize H1 = H at hPn hS ⊢
  subst eq2
  have hP := hPn
  have hD := hDn
  have hP : va_P (dC, dI) vwCl ([(h0, .inr (8, [.null, .null, .null, .null, .null, .null, .null, .int 0]))] ++ bw q2 cI bI0) H := hP
  have hD : va_D A ([(h0, .inr (8, [.null, .null, .null, .null, .null, .null, .null, .int 0]))] ++ bw q2 cI bI0) := hD
  refine va_putF (D := (dC, dI)) (ci := 8) (v := .ref (q2 0)) (ty := (.object "ClickBench$Bench")) (C := RX11) (T := TX11) (N := 8) hx hb hts hin11 tyX11 tyX11_ok nmX11 hown hK hP hD hS 0 rfl rfl 0 (by decide) fl10 (fun _ h9 => h9) rfl hin rfl (by decide +kernel) rfl rfl (Nat.le_of_ble_eq_true rfl) dX11_init_12 (fun H locs hP hD hS => ?_)
  have hP : va_P (dC, dI) vwCl ([(h0, .inr (8, [.ref (q2 0), .null, .null, .null, .null, .null, .null, .int 0]))] ++ bw q2 cI bI0) H := hP
  have hD : va_D A ([(h0, .inr (8, [.ref (q2 0), .null, .null, .null, .null, .null, .null, .int 0]))] ++ bw q2 cI bI0) := hD
  refine lv_aload_n hx hb dX11_init_15 rfl (lv_at hl 0 rfl) ?_
  refine va_new (ci := 0) (fs := [.null]) (C := RX1) (T := TX1) (N := 1) hx hb hts (by decide +kernel) tyX1 tyX1_ok hown (hts (.classLink RX11 16 RX1) (by decide +kernel)) (hts (.instantiable RX1 1) (by decide +kernel)) (hts (.initialized RX1) (by decide +kernel)) hK hP hD hS hA rfl (fun j hj => by rcases (show j = 0 by omega) with rfl <;> rfl) (Nat.le_of_ble_eq_true rfl) (Nat.le_of_ble_eq_true rfl) dX11_init_16 (fun r3 H hP hD hS => ?_)
  have hP : va_P (dC, dI) vwCl ([(h0, .inr (8, [.ref (q2 0), .null, .null, .null, .null, .null, .null, .int 0]))] ++ bw q2 cI bI0 ++ [(r3, .inr (0, [.null]))]) H := hP
  have hD : va_D A ([(h0, .inr (8, [.ref (q2 0), .null, .null, .null, .null, .null, .null, .int 0]))] ++ bw q2 cI bI0 ++ [(r3, .inr (0, [.null]))]) := hD
  refine lv_dup hx hb dX11_init_19 rfl ?_
  have hPc := hP.sub (ws' := [(r3, .inr (0, [.null]))]) [10] rfl
  have hFc := va_free (wc := [(r3, .inr (0, [.null]))]) hD hS hA [10] rfl
  refine va_callv (va_runIN (As := []) (rest := [.ref r3, .ref h0]) ⟨hx, hb, hml, hown, hts⟩ (mX1_init l dC dI cI cB cO cL N0 sT eA r3 H.size (Nat.le_trans hsz hS.1) (hN _ (hD.2 10 _ rfl))) ⟨va_cnB 0 hts gX11_init_X1_init_n18 rfl rfl rfl (eN.at hF.1 (own := RX11) (idx := 18) (y := yX1_init) (host := "ClickBench") (by decide +kernel)) (hts (.initialized RX1) (by decide +kernel)) (by decide +kernel) ⟨Nat.le_of_ble_eq_true rfl, Nat.le_of_ble_eq_true rfl⟩, rfl, hts (.instanceMethod yX1_init) (by decide +kernel)⟩ ⟨qP_blind, qP_ok hPc hK hF hO hS hN⟩ rfl rfl hl.1 rfl (lv_room (Nat.le_of_ble_eq_true rfl)) dX11_init_20 ⟨Nat.le_of_ble_eq_true rfl, Nat.le_of_ble_eq_true rfl⟩) hS (fun q9 _ h9 => hFc q9 h9) hFc (fun u9 t9 H1 locs ht9 hvm9 hw9 hB9 hz9 hk9 hS => ?_)
  obtain ⟨q4, eq4, hP1, hD1⟩ := hB9
  rw [ht9] at hP1
  obtain ⟨hPn, hDn⟩ := va_join (wr := [(h0, .inr (8, [.ref (q2 0), .null, .null, .null, .null, .null, .null, .int 0]))] ++ bw q2 cI bI0) (w1 := aw q4 cI ((0 : Int32), (fun _ => 0))) hP hD [10] [0, 1, 2, 3, 4, 5, 6, 7, 8, 9] rfl rfl (by decide) (by decide) hk9 hFc hP1 hD1
  generalize H1 = H at hPn hS ⊢
  subst eq4
  have hP := hPn
  have hD := hDn
  have hP : va_P (dC, dI) vwCl ([(h0, .inr (8, [.ref (q2 0), .null, .null, .null, .null, .null, .null, .int 0]))] ++ bw q2 cI bI0 ++ aw q4 cI ((0 : Int32), (fun _ => 0))) H := hP
  have hD : va_D A ([(h0, .inr (8, [.ref (q2 0), .null, .null, .null, .null, .null, .null, .int 0]))] ++ bw q2 cI bI0 ++ aw q4 cI ((0 : Int32), (fun _ => 0))) := hD
  refine va_putF (D := (dC, dI)) (ci := 8) (v := .ref (q4 0)) (ty := (.object "ClickBench$Arrivals")) (C := RX11) (T := TX11) (N := 8) hx hb hts hin11 tyX11 tyX11_ok nmX11 hown hK hP hD hS 0 rfl rfl 1 (by decide) fl19 (fun _ h9 => h9) rfl hin rfl (by decide +kernel) rfl rfl (Nat.le_of_ble_eq_true rfl) dX11_init_23 (fun H locs hP hD hS => ?_)
  have hP : va_P (dC, dI) vwCl ([(h0, .inr (8, [.ref (q2 0), .ref (q4 0), .null, .null, .null, .null, .null, .int 0]))] ++ bw q2 cI bI0 ++ aw q4 cI ((0 : Int32), (fun _ => 0))) H := hP
  have hD : va_D A ([(h0, .inr (8, [.ref (q2 0), .ref (q4 0), .null, .null, .null, .null, .null, .int 0]))] ++ bw q2 cI bI0 ++ aw q4 cI ((0 : Int32), (fun _ => 0))) := hD
  refine lv_aload_n hx hb dX11_init_26 rfl (lv_at hl 0 rfl) ?_
  refine va_new (ci := 4) (fs := [.null]) (C := RX6) (T := TX6) (N := 1) hx hb hts (by decide +kernel) tyX6 tyX6_ok hown (hts (.classLink RX11 23 RX6) (by decide +kernel)) (hts (.instantiable RX6 1) (by decide +kernel)) (hts (.initialized RX6) (by decide +kernel)) hK hP hD hS hA rfl (fun j hj => by rcases (show j = 0 by omega) with rfl <;> rfl) (Nat.le_of_ble_eq_true rfl) (Nat.le_of_ble_eq_true rfl) dX11_init_27 (fun r5 H hP hD hS => ?_)
  have hP : va_P (dC, dI) vwCl ([(h0, .inr (8, [.ref (q2 0), .ref (q4 0), .null, .null, .null, .null, .null, .int 0]))] ++ bw q2 cI bI0 ++ aw q4 cI ((0 : Int32), (fun _ => 0)) ++ [(r5, .inr (4, [.null]))]) H := hP
  have hD : va_D A ([(h0, .inr (8, [.ref (q2 0), .ref (q4 0), .null, .null, .null, .null, .null, .int 0]))] ++ bw q2 cI bI0 ++ aw q4 cI ((0 : Int32), (fun _ => 0)) ++ [(r5, .inr (4, [.null]))]) := hD
  refine lv_dup hx hb dX11_init_30 rfl ?_
  have hPc := hP.sub (ws' := [(r5, .inr (4, [.null]))]) [13] rfl
  have hFc := va_free (wc := [(r5, .inr (4, [.null]))]) hD hS hA [13] rfl
  refine va_callv (va_runIN (As := []) (rest := [.ref r5, .ref h0]) ⟨hx, hb, hml, hown, hts⟩ (mX6_init l dC dI cI cB cO cL N0 sT eA r5 H.size (Nat.le_trans hsz hS.1) (hN _ (hD.2 13 _ rfl))) ⟨va_cnB 0 hts gX11_init_X6_init_n25 rfl rfl rfl (eN.at hF.1 (own := RX11) (idx := 25) (y := yX6_init) (host := "ClickBench") (by decide +kernel)) (hts (.initialized RX6) (by decide +kernel)) (by decide +kernel) ⟨Nat.le_of_ble_eq_true rfl, Nat.le_of_ble_eq_true rfl⟩, rfl, hts (.instanceMethod yX6_init) (by decide +kernel)⟩ ⟨qP_blind, qP_ok hPc hK hF hO hS hN⟩ rfl rfl hl.1 rfl (lv_room (Nat.le_of_ble_eq_true rfl)) dX11_init_31 ⟨Nat.le_of_ble_eq_true rfl, Nat.le_of_ble_eq_true rfl⟩) hS (fun q9 _ h9 => hFc q9 h9) hFc (fun u9 t9 H1 locs ht9 hvm9 hw9 hB9 hz9 hk9 hS => ?_)
  obtain ⟨q6, eq6, hP1, hD1⟩ := hB9
  rw [ht9] at hP1
  obtain ⟨hPn, hDn⟩ := va_join (wr := [(h0, .inr (8, [.ref (q2 0), .ref (q4 0), .null, .null, .null, .null, .null, .int 0]))] ++ bw q2 cI bI0 ++ aw q4 cI ((0 : Int32), (fun _ => 0))) (w1 := ew q6 cI ((0 : Int32), (fun _ => 0))) hP hD [13] [0, 1, 2, 3, 4, 5, 6, 7, 8, 9, 10, 11, 12] rfl rfl (by decide) (by decide) hk9 hFc hP1 hD1
  generalize H1 = H at hPn hS ⊢
  subst eq6
  have hP := hPn
  have hD := hDn
  have hP : va_P (dC, dI) vwCl ([(h0, .inr (8, [.ref (q2 0), .ref (q4 0), .null, .null, .null, .null, .null, .int 0]))] ++ bw q2 cI bI0 ++ aw q4 cI ((0 : Int32), (fun _ => 0)) ++ ew q6 cI ((0 : Int32), (fun _ => 0))) H := hP
  have hD : va_D A ([(h0, .inr (8, [.ref (q2 0), .ref (q4 0), .null, .null, .null, .null, .null, .int 0]))] ++ bw q2 cI bI0 ++ aw q4 cI ((0 : Int32), (fun _ => 0)) ++ ew q6 cI ((0 : Int32), (fun _ => 0))) := hD
  refine va_putF (D := (dC, dI)) (ci := 8) (v := .ref (q6 0)) (ty := (.object "ClickBench$Ear")) (C := RX11) (T := TX11) (N := 8) hx hb hts hin11 tyX11 tyX11_ok nmX11 hown hK hP hD hS 0 rfl rfl 2 (by decide) fl26 (fun _ h9 => h9) rfl hin rfl (by decide +kernel) rfl rfl (Nat.le_of_ble_eq_true rfl) dX11_init_34 (fun H locs hP hD hS => ?_)
  have hP : va_P (dC, dI) vwCl ([(h0, .inr (8, [.ref (q2 0), .ref (q4 0), .ref (q6 0), .null, .null, .null, .null, .int 0]))] ++ bw q2 cI bI0 ++ aw q4 cI ((0 : Int32), (fun _ => 0)) ++ ew q6 cI ((0 : Int32), (fun _ => 0))) H := hP
  have hD : va_D A ([(h0, .inr (8, [.ref (q2 0), .ref (q4 0), .ref (q6 0), .null, .null, .null, .null, .int 0]))] ++ bw q2 cI bI0 ++ aw q4 cI ((0 : Int32), (fun _ => 0)) ++ ew q6 cI ((0 : Int32), (fun _ => 0))) := hD
  refine lv_aload_n hx hb dX11_init_37 rfl (lv_at hl 0 rfl) ?_
  refine va_new (ci := 5) (fs := [.null, .null, .null, .null, .int 0, .int 0, .int 0, .int 0, .int 0]) (C := RX8) (T := TX8) (N := 9) hx hb hts (by decide +kernel) tyX8 tyX8_ok hown (hts (.classLink RX11 30 RX8) (by decide +kernel)) (hts (.instantiable RX8 9) (by decide +kernel)) (hts (.initialized RX8) (by decide +kernel)) hK hP hD hS hA rfl (fun j hj => by rcases (show j = 0 ∨ j = 1 ∨ j = 2 ∨ j = 3 ∨ j = 4 ∨ j = 5 ∨ j = 6 ∨ j = 7 ∨ j = 8 by omega) with rfl | rfl | rfl | rfl | rfl | rfl | rfl | rfl | rfl <;> rfl) (Nat.le_of_ble_eq_true rfl) (Nat.le_of_ble_eq_true rfl) dX11_init_38 (fun r7 H hP hD hS => ?_)
  have hP : va_P (dC, dI) vwCl ([(h0, .inr (8, [.ref (q2 0), .ref (q4 0), .ref (q6 0), .null, .null, .null, .null, .int 0]))] ++ bw q2 cI bI0 ++ aw q4 cI ((0 : Int32), (fun _ => 0)) ++ ew q6 cI ((0 : Int32), (fun _ => 0)) ++ [(r7, .inr (5, [.null, .null, .null, .null, .int 0, .int 0, .int 0, .int 0, .int 0]))]) H := hP
  have hD : va_D A ([(h0, .inr (8, [.ref (q2 0), .ref (q4 0), .ref (q6 0), .null, .null, .null, .null, .int 0]))] ++ bw q2 cI bI0 ++ aw q4 cI ((0 : Int32), (fun _ => 0)) ++ ew q6 cI ((0 : Int32), (fun _ => 0)) ++ [(r7, .inr (5, [.null, .null, .null, .null, .int 0, .int 0, .int 0, .int 0, .int 0]))]) := hD
  refine lv_dup hx hb dX11_init_41 rfl ?_
  have hPc := hP.sub (ws' := [(r7, .inr (5, [.null, .null, .null, .null, .int 0, .int 0, .int 0, .int 0, .int 0]))]) [17] rfl
  have hFc := va_free (wc := [(r7, .inr (5, [.null, .null, .null, .null, .int 0, .int 0, .int 0, .int 0, .int 0]))]) hD hS hA [17] rfl
  refine va_callv (va_runIN (As := []) (rest := [.ref r7, .ref h0]) ⟨hx, hb, hml, hown, hts⟩ (mX8_init l dC dI cI cB cO cL N0 sT eA r7 H.size (Nat.le_trans hsz hS.1) (hN _ (hD.2 17 _ rfl))) ⟨va_cnB 0 hts gX11_init_X8_init_n32 rfl rfl rfl (eN.at hF.1 (own := RX11) (idx := 32) (y := yX8_init) (host := "ClickBench") (by decide +kernel)) (hts (.initialized RX8) (by decide +kernel)) (by decide +kernel) ⟨Nat.le_of_ble_eq_true rfl, Nat.le_of_ble_eq_true rfl⟩, rfl, hts (.instanceMethod yX8_init) (by decide +kernel)⟩ ⟨qP_blind, qP_ok hPc hK hF hO hS hN⟩ rfl rfl hl.1 rfl (lv_room (Nat.le_of_ble_eq_true rfl)) dX11_init_42 ⟨Nat.le_of_ble_eq_true rfl, Nat.le_of_ble_eq_true rfl⟩) hS (fun q9 _ h9 => hFc q9 h9) hFc (fun u9 t9 H1 locs ht9 hvm9 hw9 hB9 hz9 hk9 hS => ?_)
  obtain ⟨q8, eq8, hP1, hD1⟩ := hB9
  rw [ht9] at hP1
  obtain ⟨hPn, hDn⟩ := va_join (wr := [(h0, .inr (8, [.ref (q2 0), .ref (q4 0), .ref (q6 0), .null, .null, .null, .null, .int 0]))] ++ bw q2 cI bI0 ++ aw q4 cI ((0 : Int32), (fun _ => 0)) ++ ew q6 cI ((0 : Int32), (fun _ => 0))) (w1 := sw q8 cI sI0) hP hD [17] [0, 1, 2, 3, 4, 5, 6, 7, 8, 9, 10, 11, 12, 13, 14, 15, 16] rfl rfl (by decide) (by decide) hk9 hFc hP1 hD1
  generalize H1 = H at hPn hS ⊢
  subst eq8
  have hP := hPn
  have hD := hDn
  have hP : va_P (dC, dI) vwCl ([(h0, .inr (8, [.ref (q2 0), .ref (q4 0), .ref (q6 0), .null, .null, .null, .null, .int 0]))] ++ bw q2 cI bI0 ++ aw q4 cI ((0 : Int32), (fun _ => 0)) ++ ew q6 cI ((0 : Int32), (fun _ => 0)) ++ sw q8 cI sI0) H := hP
  have hD : va_D A ([(h0, .inr (8, [.ref (q2 0), .ref (q4 0), .ref (q6 0), .null, .null, .null, .null, .int 0]))] ++ bw q2 cI bI0 ++ aw q4 cI ((0 : Int32), (fun _ => 0)) ++ ew q6 cI ((0 : Int32), (fun _ => 0)) ++ sw q8 cI sI0) := hD
  refine va_putF (D := (dC, dI)) (ci := 8) (v := .ref (q8 0)) (ty := (.object "ClickBench$Survey")) (C := RX11) (T := TX11) (N := 8) hx hb hts hin11 tyX11 tyX11_ok nmX11 hown hK hP hD hS 0 rfl rfl 3 (by decide) fl33 (fun _ h9 => h9) rfl hin rfl (by decide +kernel) rfl rfl (Nat.le_of_ble_eq_true rfl) dX11_init_45 (fun H locs hP hD hS => ?_)
  have hP : va_P (dC, dI) vwCl ([(h0, .inr (8, [.ref (q2 0), .ref (q4 0), .ref (q6 0), .ref (q8 0), .null, .null, .null, .int 0]))] ++ bw q2 cI bI0 ++ aw q4 cI ((0 : Int32), (fun _ => 0)) ++ ew q6 cI ((0 : Int32), (fun _ => 0)) ++ sw q8 cI sI0) H := hP
  have hD : va_D A ([(h0, .inr (8, [.ref (q2 0), .ref (q4 0), .ref (q6 0), .ref (q8 0), .null, .null, .null, .int 0]))] ++ bw q2 cI bI0 ++ aw q4 cI ((0 : Int32), (fun _ => 0)) ++ ew q6 cI ((0 : Int32), (fun _ => 0)) ++ sw q8 cI sI0) := hD
  refine lv_aload_n hx hb dX11_init_48 rfl (lv_at hl 0 rfl) ?_
  refine va_new (ci := 7) (fs := [.null, .int 0, .int 0]) (C := RX10) (T := TX10) (N := 3) hx hb hts (by decide +kernel) tyX10 tyX10_ok hown (hts (.classLink RX11 37 RX10) (by decide +kernel)) (hts (.instantiable RX10 3) (by decide +kernel)) (hts (.initialized RX10) (by decide +kernel)) hK hP hD hS hA rfl (fun j hj => by rcases (show j = 0 ∨ j = 1 ∨ j = 2 by omega) with rfl | rfl | rfl <;> rfl) (Nat.le_of_ble_eq_true rfl) (Nat.le_of_ble_eq_true rfl) dX11_init_49 (fun r9 H hP hD hS => ?_)
  have hP : va_P (dC, dI) vwCl ([(h0, .inr (8, [.ref (q2 0), .ref (q4 0), .ref (q6 0), .ref (q8 0), .null, .null, .null, .int 0]))] ++ bw q2 cI bI0 ++ aw q4 cI ((0 : Int32), (fun _ => 0)) ++ ew q6 cI ((0 : Int32), (fun _ => 0)) ++ sw q8 cI sI0 ++ [(r9, .inr (7, [.null, .int 0, .int 0]))]) H := hP
  have hD : va_D A ([(h0, .inr (8, [.ref (q2 0), .ref (q4 0), .ref (q6 0), .ref (q8 0), .null, .null, .null, .int 0]))] ++ bw q2 cI bI0 ++ aw q4 cI ((0 : Int32), (fun _ => 0)) ++ ew q6 cI ((0 : Int32), (fun _ => 0)) ++ sw q8 cI sI0 ++ [(r9, .inr (7, [.null, .int 0, .int 0]))]) := hD
  refine lv_dup hx hb dX11_init_52 rfl ?_
  have hPc := hP.sub (ws' := [(r9, .inr (7, [.null, .int 0, .int 0]))]) [22] rfl
  have hFc := va_free (wc := [(r9, .inr (7, [.null, .int 0, .int 0]))]) hD hS hA [22] rfl
  refine va_callv (va_runI (As := []) (rest := [.ref r9, .ref h0]) ⟨hx, hb, hml, hown, hts⟩ (mX10_init l dC dI cI cB cO cL N0 sT eA r9 H.size (Nat.le_trans hsz hS.1) (hN _ (hD.2 22 _ rfl))) (cwI 0 hts gX11_init_X10_init rfl rfl rfl (hts (.initialized RX10) (by decide +kernel)) (hts (.methodLink RX11 39 yX10_init) (by decide +kernel)) (hts (.instanceMethod yX10_init) (by decide +kernel)) rfl (by decide +kernel) ⟨Nat.le_of_ble_eq_true rfl, Nat.le_of_ble_eq_true rfl⟩) ⟨qP_blind, qP_ok hPc hK hF hO hS hN⟩ rfl rfl hl.1 rfl (lv_room (Nat.le_of_ble_eq_true rfl)) dX11_init_53 ⟨Nat.le_of_ble_eq_true rfl, Nat.le_of_ble_eq_true rfl⟩) hS (fun q9 _ h9 => hFc q9 h9) hFc (fun u9 t9 H1 locs ht9 hvm9 hw9 hB9 hz9 hk9 hS => ?_)
  obtain ⟨q10, eq10, hP1, hD1⟩ := hB9
  rw [ht9] at hP1
  obtain ⟨hPn, hDn⟩ := va_join (wr := [(h0, .inr (8, [.ref (q2 0), .ref (q4 0), .ref (q6 0), .ref (q8 0), .null, .null, .null, .int 0]))] ++ bw q2 cI bI0 ++ aw q4 cI ((0 : Int32), (fun _ => 0)) ++ ew q6 cI ((0 : Int32), (fun _ => 0)) ++ sw q8 cI sI0) (w1 := uw q10 cI cB uI0) hP hD [22] [0, 1, 2, 3, 4, 5, 6, 7, 8, 9, 10, 11, 12, 13, 14, 15, 16, 17, 18, 19, 20, 21] rfl rfl (by decide) (by decide) hk9 hFc hP1 hD1
  generalize H1 = H at hPn hS ⊢
  subst eq10
  have hP := hPn
  have hD := hDn
  have hP : va_P (dC, dI) vwCl ([(h0, .inr (8, [.ref (q2 0), .ref (q4 0), .ref (q6 0), .ref (q8 0), .null, .null, .null, .int 0]))] ++ bw q2 cI bI0 ++ aw q4 cI ((0 : Int32), (fun _ => 0)) ++ ew q6 cI ((0 : Int32), (fun _ => 0)) ++ sw q8 cI sI0 ++ uw q10 cI cB uI0) H := hP
  have hD : va_D A ([(h0, .inr (8, [.ref (q2 0), .ref (q4 0), .ref (q6 0), .ref (q8 0), .null, .null, .null, .int 0]))] ++ bw q2 cI bI0 ++ aw q4 cI ((0 : Int32), (fun _ => 0)) ++ ew q6 cI ((0 : Int32), (fun _ => 0)) ++ sw q8 cI sI0 ++ uw q10 cI cB uI0) := hD
  refine va_putF (D := (dC, dI)) (ci := 8) (v := .ref (q10 0)) (ty := (.object "ClickBench$UndoStack")) (C := RX11) (T := TX11) (N := 8) hx hb hts hin11 tyX11 tyX11_ok nmX11 hown hK hP hD hS 0 rfl rfl 4 (by decide) fl40 (fun _ h9 => h9) rfl hin rfl (by decide +kernel) rfl rfl (Nat.le_of_ble_eq_true rfl) dX11_init_56 (fun H locs hP hD hS => ?_)
  have hP : va_P (dC, dI) vwCl ([(h0, .inr (8, [.ref (q2 0), .ref (q4 0), .ref (q6 0), .ref (q8 0), .ref (q10 0), .null, .null, .int 0]))] ++ bw q2 cI bI0 ++ aw q4 cI ((0 : Int32), (fun _ => 0)) ++ ew q6 cI ((0 : Int32), (fun _ => 0)) ++ sw q8 cI sI0 ++ uw q10 cI cB uI0) H := hP
  have hD : va_D A ([(h0, .inr (8, [.ref (q2 0), .ref (q4 0), .ref (q6 0), .ref (q8 0), .ref (q10 0), .null, .null, .int 0]))] ++ bw q2 cI bI0 ++ aw q4 cI ((0 : Int32), (fun _ => 0)) ++ ew q6 cI ((0 : Int32), (fun _ => 0)) ++ sw q8 cI sI0 ++ uw q10 cI cB uI0) := hD
  refine lv_aload_n hx hb dX11_init_59 rfl (lv_at hl 0 rfl) ?_
  refine va_new (ci := 3) (fs := [.null, .int 0]) (C := RX5) (T := TX5) (N := 2) hx hb hts (by decide +kernel) tyX5 tyX5_ok hown (hts (.classLink RX11 44 RX5) (by decide +kernel)) (hts (.instantiable RX5 2) (by decide +kernel)) (hts (.initialized RX5) (by decide +kernel)) hK hP hD hS hA rfl (fun j hj => by rcases (show j = 0 ∨ j = 1 by omega) with rfl | rfl <;> rfl) (Nat.le_of_ble_eq_true rfl) (Nat.le_of_ble_eq_true rfl) dX11_init_60 (fun r11 H hP hD hS => ?_)
  have hP : va_P (dC, dI) vwCl ([(h0, .inr (8, [.ref (q2 0), .ref (q4 0), .ref (q6 0), .ref (q8 0), .ref (q10 0), .null, .null, .int 0]))] ++ bw q2 cI bI0 ++ aw q4 cI ((0 : Int32), (fun _ => 0)) ++ ew q6 cI ((0 : Int32), (fun _ => 0)) ++ sw q8 cI sI0 ++ uw q10 cI cB uI0 ++ [(r11, .inr (3, [.null, .int 0]))]) H := hP
  have hD : va_D A ([(h0, .inr (8, [.ref (q2 0), .ref (q4 0), .ref (q6 0), .ref (q8 0), .ref (q10 0), .null, .null, .int 0]))] ++ bw q2 cI bI0 ++ aw q4 cI ((0 : Int32), (fun _ => 0)) ++ ew q6 cI ((0 : Int32), (fun _ => 0)) ++ sw q8 cI sI0 ++ uw q10 cI cB uI0 ++ [(r11, .inr (3, [.null, .int 0]))]) := hD
  refine lv_dup hx hb dX11_init_63 rfl ?_
  have hPc := hP.sub (ws' := [(r11, .inr (3, [.null, .int 0]))]) [60] rfl
  have hFc := va_free (wc := [(r11, .inr (3, [.null, .int 0]))]) hD hS hA [60] rfl
  refine va_callv (va_runIN (As := []) (rest := [.ref r11, .ref h0]) ⟨hx, hb, hml, hown, hts⟩ (mX5_init l dC dI cI cB cO cL N0 sT eA r11 H.size (Nat.le_trans hsz hS.1) (hN _ (hD.2 60 _ rfl))) ⟨va_cnB 0 hts gX11_init_X5_init_n46 rfl rfl rfl (eN.at hF.1 (own := RX11) (idx := 46) (y := yX5_init) (host := "ClickBench") (by decide +kernel)) (hts (.initialized RX5) (by decide +kernel)) (by decide +kernel) ⟨Nat.le_of_ble_eq_true rfl, Nat.le_of_ble_eq_true rfl⟩, rfl, hts (.instanceMethod yX5_init) (by decide +kernel)⟩ ⟨qP_blind, qP_ok hPc hK hF hO hS hN⟩ rfl rfl hl.1 rfl (lv_room (Nat.le_of_ble_eq_true rfl)) dX11_init_64 ⟨Nat.le_of_ble_eq_true rfl, Nat.le_of_ble_eq_true rfl⟩) hS (fun q9 _ h9 => hFc q9 h9) hFc (fun u9 t9 H1 locs ht9 hvm9 hw9 hB9 hz9 hk9 hS => ?_)
  obtain ⟨q12, eq12, hP1, hD1⟩ := hB9
  rw [ht9] at hP1
  obtain ⟨hPn, hDn⟩ := va_join (wr := [(h0, .inr (8, [.ref (q2 0), .ref (q4 0), .ref (q6 0), .ref (q8 0), .ref (q10 0), .null, .null, .int 0]))] ++ bw q2 cI bI0 ++ aw q4 cI ((0 : Int32), (fun _ => 0)) ++ ew q6 cI ((0 : Int32), (fun _ => 0)) ++ sw q8 cI sI0 ++ uw q10 cI cB uI0) (w1 := xw q12 cI ((0 : Int32), (fun _ => 0))) hP hD [60] [0, 1, 2, 3, 4, 5, 6, 7, 8, 9, 10, 11, 12, 13, 14, 15, 16, 17, 18, 19, 20, 21, 22, 23, 24, 25, 26, 27, 28, 29, 30, 31, 32, 33, 34, 35, 36, 37, 38, 39, 40, 41, 42, 43, 44, 45, 46, 47, 48, 49, 50, 51, 52, 53, 54, 55, 56, 57, 58, 59] rfl rfl (by decide) (by decide) hk9 hFc hP1 hD1
  generalize H1 = H at hPn hS ⊢
  subst eq12
  have hP := hPn
  have hD := hDn
  have hP : va_P (dC, dI) vwCl ([(h0, .inr (8, [.ref (q2 0), .ref (q4 0), .ref (q6 0), .ref (q8 0), .ref (q10 0), .null, .null, .int 0]))] ++ bw q2 cI bI0 ++ aw q4 cI ((0 : Int32), (fun _ => 0)) ++ ew q6 cI ((0 : Int32), (fun _ => 0)) ++ sw q8 cI sI0 ++ uw q10 cI cB uI0 ++ xw q12 cI ((0 : Int32), (fun _ => 0))) H := hP
  have hD : va_D A ([(h0, .inr (8, [.ref (q2 0), .ref (q4 0), .ref (q6 0), .ref (q8 0), .ref (q10 0), .null, .null, .int 0]))] ++ bw q2 cI bI0 ++ aw q4 cI ((0 : Int32), (fun _ => 0)) ++ ew q6 cI ((0 : Int32), (fun _ => 0)) ++ sw q8 cI sI0 ++ uw q10 cI cB uI0 ++ xw q12 cI ((0 : Int32), (fun _ => 0))) := hD
  refine va_putF (D := (dC, dI)) (ci := 8) (v := .ref (q12 0)) (ty := (.object "ClickBench$CommandText")) (C := RX11) (T := TX11) (N := 8) hx hb hts hin11 tyX11 tyX11_ok nmX11 hown hK hP hD hS 0 rfl rfl 5 (by decide) fl47 (fun _ h9 => h9) rfl hin rfl (by decide +kernel) rfl rfl (Nat.le_of_ble_eq_true rfl) dX11_init_67 (fun H locs hP hD hS => ?_)
  have hP : va_P (dC, dI) vwCl ([(h0, .inr (8, [.ref (q2 0), .ref (q4 0), .ref (q6 0), .ref (q8 0), .ref (q10 0), .ref (q12 0), .null, .int 0]))] ++ bw q2 cI bI0 ++ aw q4 cI ((0 : Int32), (fun _ => 0)) ++ ew q6 cI ((0 : Int32), (fun _ => 0)) ++ sw q8 cI sI0 ++ uw q10 cI cB uI0 ++ xw q12 cI ((0 : Int32), (fun _ => 0))) H := hP
  have hD : va_D A ([(h0, .inr (8, [.ref (q2 0), .ref (q4 0), .ref (q6 0), .ref (q8 0), .ref (q10 0), .ref (q12 0), .null, .int 0]))] ++ bw q2 cI bI0 ++ aw q4 cI ((0 : Int32), (fun _ => 0)) ++ ew q6 cI ((0 : Int32), (fun _ => 0)) ++ sw q8 cI sI0 ++ uw q10 cI cB uI0 ++ xw q12 cI ((0 : Int32), (fun _ => 0))) := hD
  refine lv_aload_n hx hb dX11_init_70 rfl (lv_at hl 0 rfl) ?_
  refine va_new (ci := 2) (fs := [.null, .null, .int 0, .int 0, .int 0, .null, .int 0, .int 0]) (C := RX4) (T := TX4) (N := 8) hx hb hts (by decide +kernel) tyX4 tyX4_ok hown (hts (.classLink RX11 51 RX4) (by decide +kernel)) (hts (.instantiable RX4 8) (by decide +kernel)) (hts (.initialized RX4) (by decide +kernel)) hK hP hD hS hA rfl (fun j hj => by rcases (show j = 0 ∨ j = 1 ∨ j = 2 ∨ j = 3 ∨ j = 4 ∨ j = 5 ∨ j = 6 ∨ j = 7 by omega) with rfl | rfl | rfl | rfl | rfl | rfl | rfl | rfl <;> rfl) (Nat.le_of_ble_eq_true rfl) (Nat.le_of_ble_eq_true rfl) dX11_init_71 (fun r13 H hP hD hS => ?_)
  have hP : va_P (dC, dI) vwCl ([(h0, .inr (8, [.ref (q2 0), .ref (q4 0), .ref (q6 0), .ref (q8 0), .ref (q10 0), .ref (q12 0), .null, .int 0]))] ++ bw q2 cI bI0 ++ aw q4 cI ((0 : Int32), (fun _ => 0)) ++ ew q6 cI ((0 : Int32), (fun _ => 0)) ++ sw q8 cI sI0 ++ uw q10 cI cB uI0 ++ xw q12 cI ((0 : Int32), (fun _ => 0)) ++ [(r13, .inr (2, [.null, .null, .int 0, .int 0, .int 0, .null, .int 0, .int 0]))]) H := hP
  have hD : va_D A ([(h0, .inr (8, [.ref (q2 0), .ref (q4 0), .ref (q6 0), .ref (q8 0), .ref (q10 0), .ref (q12 0), .null, .int 0]))] ++ bw q2 cI bI0 ++ aw q4 cI ((0 : Int32), (fun _ => 0)) ++ ew q6 cI ((0 : Int32), (fun _ => 0)) ++ sw q8 cI sI0 ++ uw q10 cI cB uI0 ++ xw q12 cI ((0 : Int32), (fun _ => 0)) ++ [(r13, .inr (2, [.null, .null, .int 0, .int 0, .int 0, .null, .int 0, .int 0]))]) := hD
  refine lv_dup hx hb dX11_init_74 rfl ?_
  have hPc := hP.sub (ws' := [(r13, .inr (2, [.null, .null, .int 0, .int 0, .int 0, .null, .int 0, .int 0]))]) [62] rfl
  have hFc := va_free (wc := [(r13, .inr (2, [.null, .null, .int 0, .int 0, .int 0, .null, .int 0, .int 0]))]) hD hS hA [62] rfl
  refine va_callv (va_runIN (As := []) (rest := [.ref r13, .ref h0]) ⟨hx, hb, hml, hown, hts⟩ (mX4_init l dC dI cI cB cO cL N0 sT eA r13 H.size (Nat.le_trans hsz hS.1) (hN _ (hD.2 62 _ rfl))) ⟨va_cnB 0 hts gX11_init_X4_init_n53 rfl rfl rfl (eN.at hF.1 (own := RX11) (idx := 53) (y := yX4_init) (host := "ClickBench") (by decide +kernel)) (hts (.initialized RX4) (by decide +kernel)) (by decide +kernel) ⟨Nat.le_of_ble_eq_true rfl, Nat.le_of_ble_eq_true rfl⟩, rfl, hts (.instanceMethod yX4_init) (by decide +kernel)⟩ ⟨qP_blind, qP_ok hPc hK hF hO hS hN⟩ rfl rfl hl.1 rfl (lv_room (Nat.le_of_ble_eq_true rfl)) dX11_init_75 ⟨Nat.le_of_ble_eq_true rfl, Nat.le_of_ble_eq_true rfl⟩) hS (fun q9 _ h9 => hFc q9 h9) hFc (fun u9 t9 H1 locs ht9 hvm9 hw9 hB9 hz9 hk9 hS => ?_)
  obtain ⟨q14, eq14, hP1, hD1⟩ := hB9
  rw [ht9] at hP1
  obtain ⟨hPn, hDn⟩ := va_join (wr := [(h0, .inr (8, [.ref (q2 0), .ref (q4 0), .ref (q6 0), .ref (q8 0), .ref (q10 0), .ref (q12 0), .null, .int 0]))] ++ bw q2 cI bI0 ++ aw q4 cI ((0 : Int32), (fun _ => 0)) ++ ew q6 cI ((0 : Int32), (fun _ => 0)) ++ sw q8 cI sI0 ++ uw q10 cI cB uI0 ++ xw q12 cI ((0 : Int32), (fun _ => 0))) (w1 := dw q14 cI cO eA dI0) hP hD [62] [0, 1, 2, 3, 4, 5, 6, 7, 8, 9, 10, 11, 12, 13, 14, 15, 16, 17, 18, 19, 20, 21, 22, 23, 24, 25, 26, 27, 28, 29, 30, 31, 32, 33, 34, 35, 36, 37, 38, 39, 40, 41, 42, 43, 44, 45, 46, 47, 48, 49, 50, 51, 52, 53, 54, 55, 56, 57, 58, 59, 60, 61] rfl rfl (by decide) (by decide) hk9 hFc hP1 hD1
  generalize H1 = H at hPn hS ⊢
  subst eq14
  have hP := hPn
  have hD := hDn
  have hP : va_P (dC, dI) vwCl ([(h0, .inr (8, [.ref (q2 0), .ref (q4 0), .ref (q6 0), .ref (q8 0), .ref (q10 0), .ref (q12 0), .null, .int 0]))] ++ bw q2 cI bI0 ++ aw q4 cI ((0 : Int32), (fun _ => 0)) ++ ew q6 cI ((0 : Int32), (fun _ => 0)) ++ sw q8 cI sI0 ++ uw q10 cI cB uI0 ++ xw q12 cI ((0 : Int32), (fun _ => 0)) ++ dw q14 cI cO eA dI0) H := hP
  have hD : va_D A ([(h0, .inr (8, [.ref (q2 0), .ref (q4 0), .ref (q6 0), .ref (q8 0), .ref (q10 0), .ref (q12 0), .null, .int 0]))] ++ bw q2 cI bI0 ++ aw q4 cI ((0 : Int32), (fun _ => 0)) ++ ew q6 cI ((0 : Int32), (fun _ => 0)) ++ sw q8 cI sI0 ++ uw q10 cI cB uI0 ++ xw q12 cI ((0 : Int32), (fun _ => 0)) ++ dw q14 cI cO eA dI0) := hD
  refine va_putF (D := (dC, dI)) (ci := 8) (v := .ref (q14 0)) (ty := (.object "ClickBench$CommandReader")) (C := RX11) (T := TX11) (N := 8) hx hb hts hin11 tyX11 tyX11_ok nmX11 hown hK hP hD hS 0 rfl rfl 6 (by decide) fl54 (fun _ h9 => h9) rfl hin rfl (by decide +kernel) rfl rfl (Nat.le_of_ble_eq_true rfl) dX11_init_78 (fun H locs hP hD hS => ?_)
  have hP : va_P (dC, dI) vwCl ([(h0, .inr (8, [.ref (q2 0), .ref (q4 0), .ref (q6 0), .ref (q8 0), .ref (q10 0), .ref (q12 0), .ref (q14 0), .int 0]))] ++ bw q2 cI bI0 ++ aw q4 cI ((0 : Int32), (fun _ => 0)) ++ ew q6 cI ((0 : Int32), (fun _ => 0)) ++ sw q8 cI sI0 ++ uw q10 cI cB uI0 ++ xw q12 cI ((0 : Int32), (fun _ => 0)) ++ dw q14 cI cO eA dI0) H := hP
  have hD : va_D A ([(h0, .inr (8, [.ref (q2 0), .ref (q4 0), .ref (q6 0), .ref (q8 0), .ref (q10 0), .ref (q12 0), .ref (q14 0), .int 0]))] ++ bw q2 cI bI0 ++ aw q4 cI ((0 : Int32), (fun _ => 0)) ++ ew q6 cI ((0 : Int32), (fun _ => 0)) ++ sw q8 cI sI0 ++ uw q10 cI cB uI0 ++ xw q12 cI ((0 : Int32), (fun _ => 0)) ++ dw q14 cI cO eA dI0) := hD
  refine lv_aload_n hx hb dX11_init_81 rfl (lv_at hl 0 rfl) ?_
  refine lv_iconst (v := 0) hx hb dX11_init_82 (by decide) ?_
  refine va_put (D := (dC, dI)) (ci := 8) (v := .int 0) (ty := .int) (C := RX11) (T := TX11) (N := 8) hx hb hts hin11 tyX11 tyX11_ok nmX11 hown hK hP hD hS 0 rfl rfl 7 (by decide) fl58 (fun _ h9 => h9) rfl (by decide +kernel) rfl rfl (Nat.le_of_ble_eq_true rfl) dX11_init_83 (fun H locs hP hD hS => ?_)
  have hP : va_P (dC, dI) vwCl ([(h0, .inr (8, [.ref (q2 0), .ref (q4 0), .ref (q6 0), .ref (q8 0), .ref (q10 0), .ref (q12 0), .ref (q14 0), .int 0]))] ++ bw q2 cI bI0 ++ aw q4 cI ((0 : Int32), (fun _ => 0)) ++ ew q6 cI ((0 : Int32), (fun _ => 0)) ++ sw q8 cI sI0 ++ uw q10 cI cB uI0 ++ xw q12 cI ((0 : Int32), (fun _ => 0)) ++ dw q14 cI cO eA dI0) H := hP
  have hD : va_D A ([(h0, .inr (8, [.ref (q2 0), .ref (q4 0), .ref (q6 0), .ref (q8 0), .ref (q10 0), .ref (q12 0), .ref (q14 0), .int 0]))] ++ bw q2 cI bI0 ++ aw q4 cI ((0 : Int32), (fun _ => 0)) ++ ew q6 cI ((0 : Int32), (fun _ => 0)) ++ sw q8 cI sI0 ++ uw q10 cI cB uI0 ++ xw q12 cI ((0 : Int32), (fun _ => 0)) ++ dw q14 cI cO eA dI0) := hD
  refine W.widen (k := 64) (n := 1952) (Nat.le_of_ble_eq_true rfl) (Nat.le_of_ble_eq_true rfl) ?_
  exact W.vret hx hb hr (fun t ht hW => ⟨⟨(), rfl, trivial, (fun _ => h0), q2, q4, q6, q8, q10, q12, q14, rfl, by rw [ht]; exact hP, hD⟩, hS.F ht⟩) hS.2.2 dX11_init_86 hlocks
end INITS
