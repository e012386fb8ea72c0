/-! CONSTRUCTORS, on -/
section INITS
abbrev rX1_init : Room := { frames := 2, cells := 2, slots := 106, locals := 45 }
set_option maxHeartbeats 4000000 in
set_option maxRecDepth 100000 in
theorem mX1_init (l : Launch) (dC : Nat → ClassId) (dI : Nat → Nat → Nat) (cI cB cO cL : ClassId) (N0 : Nat) (sT eA : Nat → Nat) (h0 : Nat) (sz : Nat) (hsz : N0 ≤ sz) (hh : N0 ≤ h0) : Met l yX1_init wsX1_init rX1_init (qP N0 sz sT eA (dC, dI) (tYS cI cB cO cL) [(h0, .inr (0, [.null]))] [.ref h0]) (va_Qv (fun _ : Unit => True) (zI (σ := Unit) (dC, dI) h0 (fun q => aw q cI ((0 : Int32), (fun _ => 0))) (va_A [(h0, .inr (0, [.null]))] sz)) (va_A [(h0, .inr (0, [.null]))] sz)) 2 106 (va_A [(h0, .inr (0, [.null]))] sz) := by
  refine jMet (cc := cX1_init) (maxL := 1) (ret := none) [(0, .ref h0)] (by decide) rfl rfl rfl ?_
  intro p e s mi below meth c C0 hin hz hK hF hO hP ls hl
  obtain ⟨hx, hb, hr, hml, hown, hts, hlocks⟩ := id C0
  have hown : s.vm.findClass RX1 = some mi.cls := hown
  subst hz
  have hN : ∀ q : Nat, (va_A [(h0, .inr (0, [.null]))] s.heap.size) q → N0 ≤ q := vA_N (ws := [(h0, .inr (0, [.null]))]) (fun a ha => by have e9 : a = h0 := List.mem_singleton.mp ha; rw [e9]; exact hh) hsz
  have hA : ∀ q : Nat, s.heap.size ≤ q → (va_A [(h0, .inr (0, [.null]))] s.heap.size) q := fun q h => Or.inr h
  have hD : va_D (va_A [(h0, .inr (0, [.null]))] s.heap.size) ([(h0, .inr (0, [.null]))]) := vD1
  generalize hAe : va_A [(h0, .inr (0, [.null]))] s.heap.size = A at hN hA hD ⊢
  have hS : va_S A s.heap s.heap [] := va_S.rf
  have hH := hF.2.2.narrow hN
  have hP : va_P (dC, dI) vwCl ([(h0, .inr (0, [.null]))]) s.heap := hP
  have hin1 : ∀ w ∈ u_ws RX1 TX1 1, w ∈ wsX1_init := by decide +kernel
  have oi3 := hts (.methodLink RX1 3 objectInit) (by decide +kernel)
  have fl14 := hts (.fieldLink RX1 14 "ClickBench$Arrivals" "list" "LClickBench$Table;") (by decide +kernel)
  refine lv_aload_n hx hb dX1_init_0 rfl (lv_at hl 0 rfl) ?_
  refine W.objInit hx hb hown oi3 (hts (.instanceMethod objectInit) (by decide +kernel)) (hts (.code objectInit ⟨#[0xb1]⟩ 1 none) (by decide +kernel)) rfl (by rw [hml]; exact hl.1) rfl dX1_init_1 (Nat.le_of_ble_eq_true rfl) (Nat.le_of_ble_eq_true rfl) ?_
  refine lv_aload_n hx hb dX1_init_4 rfl (lv_at hl 0 rfl) ?_
  refine va_new (ci := 6) (fs := [.int 0, .int 0, .null, .int 0]) (C := RX9) (T := TX9) (N := 4) hx hb hts (by decide +kernel) tyX9 tyX9_ok hown (hts (.classLink RX1 9 RX9) (by decide +kernel)) (hts (.instantiable RX9 4) (by decide +kernel)) (hts (.initialized RX9) (by decide +kernel)) hK hP hD hS hA rfl (fun j hj => by rcases (show j = 0 ∨ j = 1 ∨ j = 2 ∨ j = 3 by omega) with rfl | rfl | rfl | rfl <;> rfl) (Nat.le_of_ble_eq_true rfl) (Nat.le_of_ble_eq_true rfl) dX1_init_5 (fun r1 H hP hD hS => ?_)
  have hP : va_P (dC, dI) vwCl ([(h0, .inr (0, [.null]))] ++ [(r1, .inr (6, [.int 0, .int 0, .null, .int 0]))]) H := hP
  have hD : va_D A ([(h0, .inr (0, [.null]))] ++ [(r1, .inr (6, [.int 0, .int 0, .null, .int 0]))]) := hD
  refine lv_dup hx hb dX1_init_8 rfl ?_
  refine lv_bipush (v := 17) hx hb dX1_init_9 (by decide) ?_
  refine lv_bipush (v := 6) hx hb dX1_init_11 (by decide) ?_
  have hPc := hP.sub (ws' := [(r1, .inr (6, [.int 0, .int 0, .null, .int 0]))]) [1] rfl
  have hFc := va_free (wc := [(r1, .inr (6, [.int 0, .int 0, .null, .int 0]))]) hD hS hA [1] rfl
  refine va_callv (va_runI (As := [.int 17, .int 6]) (rest := [.ref r1, .ref h0]) ⟨hx, hb, hml, hown, hts⟩ (mX9_init l dC dI cI cB cO cL N0 sT eA r1 17 6 (by decide) H.size (Nat.le_trans hsz hS.1) (hN _ (hD.2 1 _ rfl))) (cwI 2 hts gX1_init_X9_init rfl rfl rfl (hts (.initialized RX9) (by decide +kernel)) (hts (.methodLink RX1 11 yX9_init) (by decide +kernel)) (hts (.instanceMethod yX9_init) (by decide +kernel)) rfl (by decide +kernel) ⟨Nat.le_of_ble_eq_true rfl, Nat.le_of_ble_eq_true rfl⟩) ⟨qP_blind, qP_ok hPc hK hF hO hS hN⟩ rfl rfl hl.1 rfl (lv_room (Nat.le_of_ble_eq_true rfl)) dX1_init_13 ⟨Nat.le_of_ble_eq_true rfl, Nat.le_of_ble_eq_true rfl⟩) hS (fun q9 _ h9 => hFc q9 h9) hFc (fun u9 t9 H1 locs ht9 hvm9 hw9 hB9 hz9 hk9 hS => ?_)
  obtain ⟨q2, eq2, hP1, hD1⟩ := hB9
  rw [ht9] at hP1
  obtain ⟨hPn, hDn⟩ := va_join (wr := [(h0, .inr (0, [.null]))]) (w1 := tw q2 cI 17 6 102 ((0 : Int32), (fun _ => 0))) hP hD [1] [0] rfl rfl (by decide) (by decide) hk9 hFc hP1 hD1
  generalize H1 = H at hPn hS ⊢
  subst eq2
  have hP := hPn
  have hD := hDn
  have hP : va_P (dC, dI) vwCl ([(h0, .inr (0, [.null]))] ++ tw q2 cI 17 6 102 ((0 : Int32), (fun _ => 0))) H := hP
  have hD : va_D A ([(h0, .inr (0, [.null]))] ++ tw q2 cI 17 6 102 ((0 : Int32), (fun _ => 0))) := hD
  refine va_putF (D := (dC, dI)) (ci := 0) (v := .ref (q2 0)) (ty := (.object "ClickBench$Table")) (C := RX1) (T := TX1) (N := 1) hx hb hts hin1 tyX1 tyX1_ok nmX1 hown hK hP hD hS 0 rfl rfl 0 (by decide) fl14 (fun _ h9 => h9) rfl hin rfl (by decide +kernel) rfl rfl (Nat.le_of_ble_eq_true rfl) dX1_init_16 (fun H locs hP hD hS => ?_)
  have hP : va_P (dC, dI) vwCl ([(h0, .inr (0, [.ref (q2 0)]))] ++ tw q2 cI 17 6 102 ((0 : Int32), (fun _ => 0))) H := hP
  have hD : va_D A ([(h0, .inr (0, [.ref (q2 0)]))] ++ tw q2 cI 17 6 102 ((0 : Int32), (fun _ => 0))) := hD
  exact e_iv C0 (Wd := fun q => aw q cI ((0 : Int32), (fun _ => 0))) (q := qv [h0, q2 0, q2 1]) rfl hP hD hS (Nat.le_of_ble_eq_true rfl) (Nat.le_of_ble_eq_true rfl) dX1_init_19
abbrev rX6_init : Room := { frames := 3, cells := 3, slots := 107, locals := 65 }
set_option maxHeartbeats 4000000 in
set_option maxRecDepth 100000 in
theorem mX6_init (l : Launch) (dC : Nat → ClassId) (dI : Nat → Nat → Nat) (cI cB cO cL : ClassId) (N0 : Nat) (sT eA : Nat → Nat) (h0 : Nat) (sz : Nat) (hsz : N0 ≤ sz) (hh : N0 ≤ h0) : Met l yX6_init wsX6_init rX6_init (qP N0 sz sT eA (dC, dI) (tYS cI cB cO cL) [(h0, .inr (4, [.null]))] [.ref h0]) (va_Qv (fun _ : Unit => True) (zI (σ := Unit) (dC, dI) h0 (fun q => ew q cI ((0 : Int32), (fun _ => 0))) (va_A [(h0, .inr (4, [.null]))] sz)) (va_A [(h0, .inr (4, [.null]))] sz)) 3 107 (va_A [(h0, .inr (4, [.null]))] sz) := by
  refine jMet (cc := cX6_init) (maxL := 1) (ret := none) [(0, .ref h0)] (by decide) rfl rfl rfl ?_
  intro p e s mi below meth c C0 hin hz hK hF hO hP ls hl
  obtain ⟨hx, hb, hr, hml, hown, hts, hlocks⟩ := id C0
  have hown : s.vm.findClass RX6 = some mi.cls := hown
  subst hz
  have hN : ∀ q : Nat, (va_A [(h0, .inr (4, [.null]))] s.heap.size) q → N0 ≤ q := vA_N (ws := [(h0, .inr (4, [.null]))]) (fun a ha => by have e9 : a = h0 := List.mem_singleton.mp ha; rw [e9]; exact hh) hsz
  have hA : ∀ q : Nat, s.heap.size ≤ q → (va_A [(h0, .inr (4, [.null]))] s.heap.size) q := fun q h => Or.inr h
  have hD : va_D (va_A [(h0, .inr (4, [.null]))] s.heap.size) ([(h0, .inr (4, [.null]))]) := vD1
  generalize hAe : va_A [(h0, .inr (4, [.null]))] s.heap.size = A at hN hA hD ⊢
  have hS : va_S A s.heap s.heap [] := va_S.rf
  have hH := hF.2.2.narrow hN
  have hP : va_P (dC, dI) vwCl ([(h0, .inr (4, [.null]))]) s.heap := hP
  have hin6 : ∀ w ∈ u_ws RX6 TX6 1, w ∈ wsX6_init := by decide +kernel
  have oi3 := hts (.methodLink RX6 3 objectInit) (by decide +kernel)
  have fl12 := hts (.fieldLink RX6 12 "ClickBench$Ear" "coming" "LClickBench$Arrivals;") (by decide +kernel)
  refine lv_aload_n hx hb dX6_init_0 rfl (lv_at hl 0 rfl) ?_
  refine W.objInit hx hb hown oi3 (hts (.instanceMethod objectInit) (by decide +kernel)) (hts (.code objectInit ⟨#[0xb1]⟩ 1 none) (by decide +kernel)) rfl (by rw [hml]; exact hl.1) rfl dX6_init_1 (Nat.le_of_ble_eq_true rfl) (Nat.le_of_ble_eq_true rfl) ?_
  refine lv_aload_n hx hb dX6_init_4 rfl (lv_at hl 0 rfl) ?_
  refine va_new (ci := 0) (fs := [.null]) (C := RX1) (T := TX1) (N := 1) hx hb hts (by decide +kernel) tyX1 tyX1_ok hown (hts (.classLink RX6 9 RX1) (by decide +kernel)) (hts (.instantiable RX1 1) (by decide +kernel)) (hts (.initialized RX1) (by decide +kernel)) hK hP hD hS hA rfl (fun j hj => by rcases (show j = 0 by omega) with rfl <;> rfl) (Nat.le_of_ble_eq_true rfl) (Nat.le_of_ble_eq_true rfl) dX6_init_5 (fun r1 H hP hD hS => ?_)
  have hP : va_P (dC, dI) vwCl ([(h0, .inr (4, [.null]))] ++ [(r1, .inr (0, [.null]))]) H := hP
  have hD : va_D A ([(h0, .inr (4, [.null]))] ++ [(r1, .inr (0, [.null]))]) := hD
  refine lv_dup hx hb dX6_init_8 rfl ?_
  have hPc := hP.sub (ws' := [(r1, .inr (0, [.null]))]) [1] rfl
  have hFc := va_free (wc := [(r1, .inr (0, [.null]))]) hD hS hA [1] rfl
  refine va_callv (va_runIN (As := []) (rest := [.ref r1, .ref h0]) ⟨hx, hb, hml, hown, hts⟩ (mX1_init l dC dI cI cB cO cL N0 sT eA r1 H.size (Nat.le_trans hsz hS.1) (hN _ (hD.2 1 _ rfl))) ⟨va_cnB 0 hts gX6_init_X1_init_n11 rfl rfl rfl (eN.at hF.1 (own := RX6) (idx := 11) (y := yX1_init) (host := "ClickBench") (by decide +kernel)) (hts (.initialized RX1) (by decide +kernel)) (by decide +kernel) ⟨Nat.le_of_ble_eq_true rfl, Nat.le_of_ble_eq_true rfl⟩, rfl, hts (.instanceMethod yX1_init) (by decide +kernel)⟩ ⟨qP_blind, qP_ok hPc hK hF hO hS hN⟩ rfl rfl hl.1 rfl (lv_room (Nat.le_of_ble_eq_true rfl)) dX6_init_9 ⟨Nat.le_of_ble_eq_true rfl, Nat.le_of_ble_eq_true rfl⟩) hS (fun q9 _ h9 => hFc q9 h9) hFc (fun u9 t9 H1 locs ht9 hvm9 hw9 hB9 hz9 hk9 hS => ?_)
  obtain ⟨q2, eq2, hP1, hD1⟩ := hB9
  rw [ht9] at hP1
  obtain ⟨hPn, hDn⟩ := va_join (wr := [(h0, .inr (4, [.null]))]) (w1 := aw q2 cI ((0 : Int32), (fun _ => 0))) hP hD [1] [0] rfl rfl (by decide) (by decide) hk9 hFc hP1 hD1
  generalize H1 = H at hPn hS ⊢
  subst eq2
  have hP := hPn
  have hD := hDn
  have hP : va_P (dC, dI) vwCl ([(h0, .inr (4, [.null]))] ++ aw q2 cI ((0 : Int32), (fun _ => 0))) H := hP
  have hD : va_D A ([(h0, .inr (4, [.null]))] ++ aw q2 cI ((0 : Int32), (fun _ => 0))) := hD
  refine va_putF (D := (dC, dI)) (ci := 4) (v := .ref (q2 0)) (ty := (.object "ClickBench$Arrivals")) (C := RX6) (T := TX6) (N := 1) hx hb hts hin6 tyX6 tyX6_ok nmX6 hown hK hP hD hS 0 rfl rfl 0 (by decide) fl12 (fun _ h9 => h9) rfl hin rfl (by decide +kernel) rfl rfl (Nat.le_of_ble_eq_true rfl) dX6_init_12 (fun H locs hP hD hS => ?_)
  have hP : va_P (dC, dI) vwCl ([(h0, .inr (4, [.ref (q2 0)]))] ++ aw q2 cI ((0 : Int32), (fun _ => 0))) H := hP
  have hD : va_D A ([(h0, .inr (4, [.ref (q2 0)]))] ++ aw q2 cI ((0 : Int32), (fun _ => 0))) := hD
  exact e_iv C0 (Wd := fun q => ew q cI ((0 : Int32), (fun _ => 0))) (q := qv [h0, q2 0, q2 1, q2 2]) rfl hP hD hS (Nat.le_of_ble_eq_true rfl) (Nat.le_of_ble_eq_true rfl) dX6_init_15
def sI0 : SS := (fun k => ([0, -1000000000, 0, 0, -1] : List Int32).getD k 0, fun _ _ => 0)
abbrev rX8_init : Room := { frames := 1, cells := 4, slots := 816, locals := 12 }
set_option maxHeartbeats 4000000 in
set_option maxRecDepth 100000 in
theorem mX8_init (l : Launch) (dC : Nat → ClassId) (dI : Nat → Nat → Nat) (cI cB cO cL : ClassId) (N0 : Nat) (sT eA : Nat → Nat) (h0 : Nat) (sz : Nat) (hsz : N0 ≤ sz) (hh : N0 ≤ h0) : Met l yX8_init wsX8_init rX8_init (qP N0 sz sT eA (dC, dI) (tYS cI cB cO cL) [(h0, .inr (5, [.null, .null, .null, .null, .int 0, .int 0, .int 0, .int 0, .int 0]))] [.ref h0]) (va_Qv (fun _ : Unit => True) (zI (σ := Unit) (dC, dI) h0 (fun q => sw q cI sI0) (va_A [(h0, .inr (5, [.null, .null, .null, .null, .int 0, .int 0, .int 0, .int 0, .int 0]))] sz)) (va_A [(h0, .inr (5, [.null, .null, .null, .null, .int 0, .int 0, .int 0, .int 0, .int 0]))] sz)) 4 816 (va_A [(h0, .inr (5, [.null, .null, .null, .null, .int 0, .int 0, .int 0, .int 0, .int 0]))] sz) := by
  refine jMet (cc := cX8_init) (maxL := 1) (ret := none) [(0, .ref h0)] (by decide) rfl rfl rfl ?_
  intro p e s mi below meth c C0 hin hz hK hF hO hP ls hl
  obtain ⟨hx, hb, hr, hml, hown, hts, hlocks⟩ := id C0
  have hown : s.vm.findClass RX8 = some mi.cls := hown
  subst hz
  have hN : ∀ q : Nat, (va_A [(h0, .inr (5, [.null, .null, .null, .null, .int 0, .int 0, .int 0, .int 0, .int 0]))] s.heap.size) q → N0 ≤ q := vA_N (ws := [(h0, .inr (5, [.null, .null, .null, .null, .int 0, .int 0, .int 0, .int 0, .int 0]))]) (fun a ha => by have e9 : a = h0 := List.mem_singleton.mp ha; rw [e9]; exact hh) hsz
  have hA : ∀ q : Nat, s.heap.size ≤ q → (va_A [(h0, .inr (5, [.null, .null, .null, .null, .int 0, .int 0, .int 0, .int 0, .int 0]))] s.heap.size) q := fun q h => Or.inr h
  have hD : va_D (va_A [(h0, .inr (5, [.null, .null, .null, .null, .int 0, .int 0, .int 0, .int 0, .int 0]))] s.heap.size) ([(h0, .inr (5, [.null, .null, .null, .null, .int 0, .int 0, .int 0, .int 0, .int 0]))]) := vD1
  generalize hAe : va_A [(h0, .inr (5, [.null, .null, .null, .null, .int 0, .int 0, .int 0, .int 0, .int 0]))] s.heap.size = A at hN hA hD ⊢
  have hS : va_S A s.heap s.heap [] := va_S.rf
  have hH := hF.2.2.narrow hN
  have hP : va_P (dC, dI) vwCl ([(h0, .inr (5, [.null, .null, .null, .null, .int 0, .int 0, .int 0, .int 0, .int 0]))]) s.heap := hP
  have hin8 : ∀ w ∈ u_ws RX8 TX8 9, w ∈ wsX8_init := by decide +kernel
  have oi3 := hts (.methodLink RX8 3 objectInit) (by decide +kernel)
  have fl9 := hts (.fieldLink RX8 9 "ClickBench$Survey" "votes" "[I") (by decide +kernel)
  have fl15 := hts (.fieldLink RX8 15 "ClickBench$Survey" "errors" "[I") (by decide +kernel)
  have fl18 := hts (.fieldLink RX8 18 "ClickBench$Survey" "hearers" "[I") (by decide +kernel)
  have fl21 := hts (.fieldLink RX8 21 "ClickBench$Survey" "starts" "[I") (by decide +kernel)
  have fl24 := hts (.fieldLink RX8 24 "ClickBench$Survey" "hearerCount" "I") (by decide +kernel)
  have cn28 := hts (.constant RX8 28 (-1000000000)) (by decide +kernel)
  have fl29 := hts (.fieldLink RX8 29 "ClickBench$Survey" "best" "I") (by decide +kernel)
  have fl32 := hts (.fieldLink RX8 32 "ClickBench$Survey" "tiedCells" "I") (by decide +kernel)
  have fl35 := hts (.fieldLink RX8 35 "ClickBench$Survey" "isFresh" "Z") (by decide +kernel)
  have fl39 := hts (.fieldLink RX8 39 "ClickBench$Survey" "leftOut" "I") (by decide +kernel)
  refine lv_aload_n hx hb dX8_init_0 rfl (lv_at hl 0 rfl) ?_
  refine W.objInit hx hb hown oi3 (hts (.instanceMethod objectInit) (by decide +kernel)) (hts (.code objectInit ⟨#[0xb1]⟩ 1 none) (by decide +kernel)) rfl (by rw [hml]; exact hl.1) rfl dX8_init_1 (Nat.le_of_ble_eq_true rfl) (Nat.le_of_ble_eq_true rfl) ?_
  refine lv_aload_n hx hb dX8_init_4 rfl (lv_at hl 0 rfl) ?_
  refine lv_sipush (v := 400) hx hb dX8_init_5 (by decide) ?_
  refine g_newi (tys := (tYS cI cB cO cL)) (N' := 400) hx hb (hts (.arrayClass .int) (by decide +kernel)) hK hP hD hS hA 0 rfl (by decide) (by decide) (Nat.le_of_ble_eq_true rfl) (Nat.le_of_ble_eq_true rfl) (Nat.le_of_ble_eq_true rfl) dX8_init_8 (fun r1 H hP hD hS => ?_)
  have hP : va_P (dC, dI) vwCl ([(h0, .inr (5, [.null, .null, .null, .null, .int 0, .int 0, .int 0, .int 0, .int 0]))] ++ [(r1, .inl (cI, 400, .inl (fun _ => 0)))]) H := hP
  have hD : va_D A ([(h0, .inr (5, [.null, .null, .null, .null, .int 0, .int 0, .int 0, .int 0, .int 0]))] ++ [(r1, .inl (cI, 400, .inl (fun _ => 0)))]) := hD
  refine va_putF (D := (dC, dI)) (ci := 5) (v := .ref r1) (ty := (.array .int)) (C := RX8) (T := TX8) (N := 9) hx hb hts hin8 tyX8 tyX8_ok nmX8 hown hK hP hD hS 0 rfl rfl 0 (by decide) fl9 (fun _ h9 => h9) rfl hin rfl (by decide +kernel) rfl rfl (Nat.le_of_ble_eq_true rfl) dX8_init_10 (fun H locs hP hD hS => ?_)
  have hP : va_P (dC, dI) vwCl ([(h0, .inr (5, [.ref r1, .null, .null, .null, .int 0, .int 0, .int 0, .int 0, .int 0]))] ++ [(r1, .inl (cI, 400, .inl (fun _ => 0)))]) H := hP
  have hD : va_D A ([(h0, .inr (5, [.ref r1, .null, .null, .null, .int 0, .int 0, .int 0, .int 0, .int 0]))] ++ [(r1, .inl (cI, 400, .inl (fun _ => 0)))]) := hD
  refine lv_aload_n hx hb dX8_init_13 rfl (lv_at hl 0 rfl) ?_
  refine lv_sipush (v := 400) hx hb dX8_init_14 (by decide) ?_
  refine g_newi (tys := (tYS cI cB cO cL)) (N' := 400) hx hb (hts (.arrayClass .int) (by decide +kernel)) hK hP hD hS hA 0 rfl (by decide) (by decide) (Nat.le_of_ble_eq_true rfl) (Nat.le_of_ble_eq_true rfl) (Nat.le_of_ble_eq_true rfl) dX8_init_17 (fun r2 H hP hD hS => ?_)
  have hP : va_P (dC, dI) vwCl ([(h0, .inr (5, [.ref r1, .null, .null, .null, .int 0, .int 0, .int 0, .int 0, .int 0]))] ++ [(r1, .inl (cI, 400, .inl (fun _ => 0)))] ++ [(r2, .inl (cI, 400, .inl (fun _ => 0)))]) H := hP
  have hD : va_D A ([(h0, .inr (5, [.ref r1, .null, .null, .null, .int 0, .int 0, .int 0, .int 0, .int 0]))] ++ [(r1, .inl (cI, 400, .inl (fun _ => 0)))] ++ [(r2, .inl (cI, 400, .inl (fun _ => 0)))]) := hD
  refine va_putF (D := (dC, dI)) (ci := 5) (v := .ref r2) (ty := (.array .int)) (C := RX8) (T := TX8) (N := 9) hx hb hts hin8 tyX8 tyX8_ok nmX8 hown hK hP hD hS 0 rfl rfl 1 (by decide) fl15 (fun _ h9 => h9) rfl hin rfl (by decide +kernel) rfl rfl (Nat.le_of_ble_eq_true rfl) dX8_init_19 (fun H locs hP hD hS => ?_)
  have hP : va_P (dC, dI) vwCl ([(h0, .inr (5, [.ref r1, .ref r2, .null, .null, .int 0, .int 0, .int 0, .int 0, .int 0]))] ++ [(r1, .inl (cI, 400, .inl (fun _ => 0)))] ++ [(r2, .inl (cI, 400, .inl (fun _ => 0)))]) H := hP
  have hD : va_D A ([(h0, .inr (5, [.ref r1, .ref r2, .null, .null, .int 0, .int 0, .int 0, .int 0, .int 0]))] ++ [(r1, .inl (cI, 400, .inl (fun _ => 0)))] ++ [(r2, .inl (cI, 400, .inl (fun _ => 0)))]) := hD
  refine lv_aload_n hx hb dX8_init_22 rfl (lv_at hl 0 rfl) ?_
  refine lv_bipush (v := 8) hx hb dX8_init_23 (by decide) ?_
  refine g_newi (tys := (tYS cI cB cO cL)) (N' := 8) hx hb (hts (.arrayClass .int) (by decide +kernel)) hK hP hD hS hA 0 rfl (by decide) (by decide) (Nat.le_of_ble_eq_true rfl) (Nat.le_of_ble_eq_true rfl) (Nat.le_of_ble_eq_true rfl) dX8_init_25 (fun r3 H hP hD hS => ?_)
  have hP : va_P (dC, dI) vwCl ([(h0, .inr (5, [.ref r1, .ref r2, .null, .null, .int 0, .int 0, .int 0, .int 0, .int 0]))] ++ [(r1, .inl (cI, 400, .inl (fun _ => 0)))] ++ [(r2, .inl (cI, 400, .inl (fun _ => 0)))] ++ [(r3, .inl (cI, 8, .inl (fun _ => 0)))]) H := hP
  have hD : va_D A ([(h0, .inr (5, [.ref r1, .ref r2, .null, .null, .int 0, .int 0, .int 0, .int 0, .int 0]))] ++ [(r1, .inl (cI, 400, .inl (fun _ => 0)))] ++ [(r2, .inl (cI, 400, .inl (fun _ => 0)))] ++ [(r3, .inl (cI, 8, .inl (fun _ => 0)))]) := hD
  refine va_putF (D := (dC, dI)) (ci := 5) (v := .ref r3) (ty := (.array .int)) (C := RX8) (T := TX8) (N := 9) hx hb hts hin8 tyX8 tyX8_ok nmX8 hown hK hP hD hS 0 rfl rfl 2 (by decide) fl18 (fun _ h9 => h9) rfl hin rfl (by decide +kernel) rfl rfl (Nat.le_of_ble_eq_true rfl) dX8_init_27 (fun H locs hP hD hS => ?_)
  have hP : va_P (dC, dI) vwCl ([(h0, .inr (5, [.ref r1, .ref r2, .ref r3, .null, .int 0, .int 0, .int 0, .int 0, .int 0]))] ++ [(r1, .inl (cI, 400, .inl (fun _ => 0)))] ++ [(r2, .inl (cI, 400, .inl (fun _ => 0)))] ++ [(r3, .inl (cI, 8, .inl (fun _ => 0)))]) H := hP
  have hD : va_D A ([(h0, .inr (5, [.ref r1, .ref r2, .ref r3, .null, .int 0, .int 0, .int 0, .int 0, .int 0]))] ++ [(r1, .inl (cI, 400, .inl (fun _ => 0)))] ++ [(r2, .inl (cI, 400, .inl (fun _ => 0)))] ++ [(r3, .inl (cI, 8, .inl (fun _ => 0)))]) := hD
  refine lv_aload_n hx hb dX8_init_30 rfl (lv_at hl 0 rfl) ?_
  refine lv_bipush (v := 8) hx hb dX8_init_31 (by decide) ?_
  refine g_newi (tys := (tYS cI cB cO cL)) (N' := 8) hx hb (hts (.arrayClass .int) (by decide +kernel)) hK hP hD hS hA 0 rfl (by decide) (by decide) (Nat.le_of_ble_eq_true rfl) (Nat.le_of_ble_eq_true rfl) (Nat.le_of_ble_eq_true rfl) dX8_init_33 (fun r4 H hP hD hS => ?_)
  have hP : va_P (dC, dI) vwCl ([(h0, .inr (5, [.ref r1, .ref r2, .ref r3, .null, .int 0, .int 0, .int 0, .int 0, .int 0]))] ++ [(r1, .inl (cI, 400, .inl (fun _ => 0)))] ++ [(r2, .inl (cI, 400, .inl (fun _ => 0)))] ++ [(r3, .inl (cI, 8, .inl (fun _ => 0)))] ++ [(r4, .inl (cI, 8, .inl (fun _ => 0)))]) H := hP
  have hD : va_D A ([(h0, .inr (5, [.ref r1, .ref r2, .ref r3, .null, .int 0, .int 0, .int 0, .int 0, .int 0]))] ++ [(r1, .inl (cI, 400, .inl (fun _ => 0)))] ++ [(r2, .inl (cI, 400, .inl (fun _ => 0)))] ++ [(r3, .inl (cI, 8, .inl (fun _ => 0)))] ++ [(r4, .inl (cI, 8, .inl (fun _ => 0)))]) := hD
  refine va_putF (D := (dC, dI)) (ci := 5) (v := .ref r4) (ty := (.array .int)) (C := RX8) (T := TX8) (N := 9) hx hb hts hin8 tyX8 tyX8_ok nmX8 hown hK hP hD hS 0 rfl rfl 3 (by decide) fl21 (fun _ h9 => h9) rfl hin rfl (by decide +kernel) rfl rfl (Nat.le_of_ble_eq_true rfl) dX8_init_35 (fun H locs hP hD hS => ?_)
  have hP : va_P (dC, dI) vwCl ([(h0, .inr (5, [.ref r1, .ref r2, .ref r3, .ref r4, .int 0, .int 0, .int 0, .int 0, .int 0]))] ++ [(r1, .inl (cI, 400, .inl (fun _ => 0)))] ++ [(r2, .inl (cI, 400, .inl (fun _ => 0)))] ++ [(r3, .inl (cI, 8, .inl (fun _ => 0)))] ++ [(r4, .inl (cI, 8, .inl (fun _ => 0)))]) H := hP
  have hD : va_D A ([(h0, .inr (5, [.ref r1, .ref r2, .ref r3, .ref r4, .int 0, .int 0, .int 0, .int 0, .int 0]))] ++ [(r1, .inl (cI, 400, .inl (fun _ => 0)))] ++ [(r2, .inl (cI, 400, .inl (fun _ => 0)))] ++ [(r3, .inl (cI, 8, .inl (fun _ => 0)))] ++ [(r4, .inl (cI, 8, .inl (fun _ => 0)))]) := hD
  refine lv_aload_n hx hb dX8_init_38 rfl (lv_at hl 0 rfl) ?_
  refine lv_iconst (v := 0) hx hb dX8_init_39 (by decide) ?_
  refine va_put (D := (dC, dI)) (ci := 5) (v := .int 0) (ty := .int) (C := RX8) (T := TX8) (N := 9) hx hb hts hin8 tyX8 tyX8_ok nmX8 hown hK hP hD hS 0 rfl rfl 4 (by decide) fl24 (fun _ h9 => h9) rfl (by decide +kernel) rfl rfl (Nat.le_of_ble_eq_true rfl) dX8_init_40 (fun H locs hP hD hS => ?_)
  have hP : va_P (dC, dI) vwCl ([(h0, .inr (5, [.ref r1, .ref r2, .ref r3, .ref r4, .int 0, .int 0, .int 0, .int 0, .int 0]))] ++ [(r1, .inl (cI, 400, .inl (fun _ => 0)))] ++ [(r2, .inl (cI, 400, .inl (fun _ => 0)))] ++ [(r3, .inl (cI, 8, .inl (fun _ => 0)))] ++ [(r4, .inl (cI, 8, .inl (fun _ => 0)))]) H := hP
  have hD : va_D A ([(h0, .inr (5, [.ref r1, .ref r2, .ref r3, .ref r4, .int 0, .int 0, .int 0, .int 0, .int 0]))] ++ [(r1, .inl (cI, 400, .inl (fun _ => 0)))] ++ [(r2, .inl (cI, 400, .inl (fun _ => 0)))] ++ [(r3, .inl (cI, 8, .inl (fun _ => 0)))] ++ [(r4, .inl (cI, 8, .inl (fun _ => 0)))]) := hD
  refine lv_aload_n hx hb dX8_init_43 rfl (lv_at hl 0 rfl) ?_
  refine lv_ldc (v := (-1000000000)) hx hb hown cn28 dX8_init_44 ?_
  refine va_put (D := (dC, dI)) (ci := 5) (v := .int (-1000000000)) (ty := .int) (C := RX8) (T := TX8) (N := 9) hx hb hts hin8 tyX8 tyX8_ok nmX8 hown hK hP hD hS 0 rfl rfl 5 (by decide) fl29 (fun _ h9 => h9) rfl (by decide +kernel) rfl rfl (Nat.le_of_ble_eq_true rfl) dX8_init_46 (fun H locs hP hD hS => ?_)
  have hP : va_P (dC, dI) vwCl ([(h0, .inr (5, [.ref r1, .ref r2, .ref r3, .ref r4, .int 0, .int (-1000000000), .int 0, .int 0, .int 0]))] ++ [(r1, .inl (cI, 400, .inl (fun _ => 0)))] ++ [(r2, .inl (cI, 400, .inl (fun _ => 0)))] ++ [(r3, .inl (cI, 8, .inl (fun _ => 0)))] ++ [(r4, .inl (cI, 8, .inl (fun _ => 0)))]) H := hP
  have hD : va_D A ([(h0, .inr (5, [.ref r1, .ref r2, .ref r3, .ref r4, .int 0, .int (-1000000000), .int 0, .int 0, .int 0]))] ++ [(r1, .inl (cI, 400, .inl (fun _ => 0)))] ++ [(r2, .inl (cI, 400, .inl (fun _ => 0)))] ++ [(r3, .inl (cI, 8, .inl (fun _ => 0)))] ++ [(r4, .inl (cI, 8, .inl (fun _ => 0)))]) := hD
  refine lv_aload_n hx hb dX8_init_49 rfl (lv_at hl 0 rfl) ?_
  refine lv_iconst (v := 0) hx hb dX8_init_50 (by decide) ?_
  refine va_put (D := (dC, dI)) (ci := 5) (v := .int 0) (ty := .int) (C := RX8) (T := TX8) (N := 9) hx hb hts hin8 tyX8 tyX8_ok nmX8 hown hK hP hD hS 0 rfl rfl 6 (by decide) fl32 (fun _ h9 => h9) rfl (by decide +kernel) rfl rfl (Nat.le_of_ble_eq_true rfl) dX8_init_51 (fun H locs hP hD hS => ?_)
  have hP : va_P (dC, dI) vwCl ([(h0, .inr (5, [.ref r1, .ref r2, .ref r3, .ref r4, .int 0, .int (-1000000000), .int 0, .int 0, .int 0]))] ++ [(r1, .inl (cI, 400, .inl (fun _ => 0)))] ++ [(r2, .inl (cI, 400, .inl (fun _ => 0)))] ++ [(r3, .inl (cI, 8, .inl (fun _ => 0)))] ++ [(r4, .inl (cI, 8, .inl (fun _ => 0)))]) H := hP
  have hD : va_D A ([(h0, .inr (5, [.ref r1, .ref r2, .ref r3, .ref r4, .int 0, .int (-1000000000), .int 0, .int 0, .int 0]))] ++ [(r1, .inl (cI, 400, .inl (fun _ => 0)))] ++ [(r2, .inl (cI, 400, .inl (fun _ => 0)))] ++ [(r3, .inl (cI, 8, .inl (fun _ => 0)))] ++ [(r4, .inl (cI, 8, .inl (fun _ => 0)))]) := hD
  refine lv_aload_n hx hb dX8_init_54 rfl (lv_at hl 0 rfl) ?_
  refine lv_iconst (v := 0) hx hb dX8_init_55 (by decide) ?_
  refine va_put (D := (dC, dI)) (ci := 5) (v := .int 0) (ty := .boolean) (C := RX8) (T := TX8) (N := 9) hx hb hts hin8 tyX8 tyX8_ok nmX8 hown hK hP hD hS 0 rfl rfl 7 (by decide) fl35 (fun _ h9 => h9) rfl (by decide +kernel) rfl rfl (Nat.le_of_ble_eq_true rfl) dX8_init_56 (fun H locs hP hD hS => ?_)
  have hP : va_P (dC, dI) vwCl ([(h0, .inr (5, [.ref r1, .ref r2, .ref r3, .ref r4, .int 0, .int (-1000000000), .int 0, .int 0, .int 0]))] ++ [(r1, .inl (cI, 400, .inl (fun _ => 0)))] ++ [(r2, .inl (cI, 400, .inl (fun _ => 0)))] ++ [(r3, .inl (cI, 8, .inl (fun _ => 0)))] ++ [(r4, .inl (cI, 8, .inl (fun _ => 0)))]) H := hP
  have hD : va_D A ([(h0, .inr (5, [.ref r1, .ref r2, .ref r3, .ref r4, .int 0, .int (-1000000000), .int 0, .int 0, .int 0]))] ++ [(r1, .inl (cI, 400, .inl (fun _ => 0)))] ++ [(r2, .inl (cI, 400, .inl (fun _ => 0)))] ++ [(r3, .inl (cI, 8, .inl (fun _ => 0)))] ++ [(r4, .inl (cI, 8, .inl (fun _ => 0)))]) := hD
  refine lv_aload_n hx hb dX8_init_59 rfl (lv_at hl 0 rfl) ?_
  refine lv_iconst (v := (-1)) hx hb dX8_init_60 (by decide) ?_
  refine va_put (D := (dC, dI)) (ci := 5) (v := .int (-1)) (ty := .int) (C := RX8) (T := TX8) (N := 9) hx hb hts hin8 tyX8 tyX8_ok nmX8 hown hK hP hD hS 0 rfl rfl 8 (by decide) fl39 (fun _ h9 => h9) rfl (by decide +kernel) rfl rfl (Nat.le_of_ble_eq_true rfl) dX8_init_61 (fun H locs hP hD hS => ?_)
  have hP : va_P (dC, dI) vwCl ([(h0, .inr (5, [.ref r1, .ref r2, .ref r3, .ref r4, .int 0, .int (-1000000000), .int 0, .int 0, .int (-1)]))] ++ [(r1, .inl (cI, 400, .inl (fun _ => 0)))] ++ [(r2, .inl (cI, 400, .inl (fun _ => 0)))] ++ [(r3, .inl (cI, 8, .inl (fun _ => 0)))] ++ [(r4, .inl (cI, 8, .inl (fun _ => 0)))]) H := hP
  have hD : va_D A ([(h0, .inr (5, [.ref r1, .ref r2, .ref r3, .ref r4, .int 0, .int (-1000000000), .int 0, .int 0, .int (-1)]))] ++ [(r1, .inl (cI, 400, .inl (fun _ => 0)))] ++ [(r2, .inl (cI, 400, .inl (fun _ => 0)))] ++ [(r3, .inl (cI, 8, .inl (fun _ => 0)))] ++ [(r4, .inl (cI, 8, .inl (fun _ => 0)))]) := hD
  exact e_iv C0 (Wd := fun q => sw q cI sI0) (q := qv [h0, r1, r2, r3, r4]) rfl hP hD hS (Nat.le_of_ble_eq_true rfl) (Nat.le_of_ble_eq_true rfl) dX8_init_64
abbrev rX5_init : Room := { frames := 1, cells := 1, slots := 150, locals := 12 }
set_option maxHeartbeats 4000000 in
set_option maxRecDepth 100000 in
theorem mX5_init (l : Launch) (dC : Nat → ClassId) (dI : Nat → Nat → Nat) (cI cB cO cL : ClassId) (N0 : Nat) (sT eA : Nat → Nat) (h0 : Nat) (sz : Nat) (hsz : N0 ≤ sz) (hh : N0 ≤ h0) : Met l yX5_init wsX5_init rX5_init (qP N0 sz sT eA (dC, dI) (tYS cI cB cO cL) [(h0, .inr (3, [.null, .int 0]))] [.ref h0]) (va_Qv (fun _ : Unit => True) (zI (σ := Unit) (dC, dI) h0 (fun q => xw q cI ((0 : Int32), (fun _ => 0))) (va_A [(h0, .inr (3, [.null, .int 0]))] sz)) (va_A [(h0, .inr (3, [.null, .int 0]))] sz)) 1 150 (va_A [(h0, .inr (3, [.null, .int 0]))] sz) := by
  refine jMet (cc := cX5_init) (maxL := 1) (ret := none) [(0, .ref h0)] (by decide) rfl rfl rfl ?_
  intro p e s mi below meth c C0 hin hz hK hF hO hP ls hl
  obtain ⟨hx, hb, hr, hml, hown, hts, hlocks⟩ := id C0
  have hown : s.vm.findClass RX5 = some mi.cls := hown
  subst hz
  have hN : ∀ q : Nat, (va_A [(h0, .inr (3, [.null, .int 0]))] s.heap.size) q → N0 ≤ q := vA_N (ws := [(h0, .inr (3, [.null, .int 0]))]) (fun a ha => by have e9 : a = h0 := List.mem_singleton.mp ha; rw [e9]; exact hh) hsz
  have hA : ∀ q : Nat, s.heap.size ≤ q → (va_A [(h0, .inr (3, [.null, .int 0]))] s.heap.size) q := fun q h => Or.inr h
  have hD : va_D (va_A [(h0, .inr (3, [.null, .int 0]))] s.heap.size) ([(h0, .inr (3, [.null, .int 0]))]) := vD1
  generalize hAe : va_A [(h0, .inr (3, [.null, .int 0]))] s.heap.size = A at hN hA hD ⊢
  have hS : va_S A s.heap s.heap [] := va_S.rf
  have hH := hF.2.2.narrow hN
  have hP : va_P (dC, dI) vwCl ([(h0, .inr (3, [.null, .int 0]))]) s.heap := hP
  have hin5 : ∀ w ∈ u_ws RX5 TX5 2, w ∈ wsX5_init := by decide +kernel
  have oi3 := hts (.methodLink RX5 3 objectInit) (by decide +kernel)
  have fl11 := hts (.fieldLink RX5 11 "ClickBench$CommandText" "bytes" "[I") (by decide +kernel)
  have fl15 := hts (.fieldLink RX5 15 "ClickBench$CommandText" "length" "I") (by decide +kernel)
  refine lv_aload_n hx hb dX5_init_0 rfl (lv_at hl 0 rfl) ?_
  refine W.objInit hx hb hown oi3 (hts (.instanceMethod objectInit) (by decide +kernel)) (hts (.code objectInit ⟨#[0xb1]⟩ 1 none) (by decide +kernel)) rfl (by rw [hml]; exact hl.1) rfl dX5_init_1 (Nat.le_of_ble_eq_true rfl) (Nat.le_of_ble_eq_true rfl) ?_
  refine lv_aload_n hx hb dX5_init_4 rfl (lv_at hl 0 rfl) ?_
  refine lv_sipush (v := 150) hx hb dX5_init_5 (by decide) ?_
  refine g_newi (tys := (tYS cI cB cO cL)) (N' := 150) hx hb (hts (.arrayClass .int) (by decide +kernel)) hK hP hD hS hA 0 rfl (by decide) (by decide) (Nat.le_of_ble_eq_true rfl) (Nat.le_of_ble_eq_true rfl) (Nat.le_of_ble_eq_true rfl) dX5_init_8 (fun r1 H hP hD hS => ?_)
  have hP : va_P (dC, dI) vwCl ([(h0, .inr (3, [.null, .int 0]))] ++ [(r1, .inl (cI, 150, .inl (fun _ => 0)))]) H := hP
  have hD : va_D A ([(h0, .inr (3, [.null, .int 0]))] ++ [(r1, .inl (cI, 150, .inl (fun _ => 0)))]) := hD
  refine va_putF (D := (dC, dI)) (ci := 3) (v := .ref r1) (ty := (.array .int)) (C := RX5) (T := TX5) (N := 2) hx hb hts hin5 tyX5 tyX5_ok nmX5 hown hK hP hD hS 0 rfl rfl 0 (by decide) fl11 (fun _ h9 => h9) rfl hin rfl (by decide +kernel) rfl rfl (Nat.le_of_ble_eq_true rfl) dX5_init_10 (fun H locs hP hD hS => ?_)
  have hP : va_P (dC, dI) vwCl ([(h0, .inr (3, [.ref r1, .int 0]))] ++ [(r1, .inl (cI, 150, .inl (fun _ => 0)))]) H := hP
  have hD : va_D A ([(h0, .inr (3, [.ref r1, .int 0]))] ++ [(r1, .inl (cI, 150, .inl (fun _ => 0)))]) := hD
  refine lv_aload_n hx hb dX5_init_13 rfl (lv_at hl 0 rfl) ?_
  refine lv_iconst (v := 0) hx hb dX5_init_14 (by decide) ?_
  refine va_put (D := (dC, dI)) (ci := 3) (v := .int 0) (ty := .int) (C := RX5) (T := TX5) (N := 2) hx hb hts hin5 tyX5 tyX5_ok nmX5 hown hK hP hD hS 0 rfl rfl 1 (by decide) fl15 (fun _ h9 => h9) rfl (by decide +kernel) rfl rfl (Nat.le_of_ble_eq_true rfl) dX5_init_15 (fun H locs hP hD hS => ?_)
  have hP : va_P (dC, dI) vwCl ([(h0, .inr (3, [.ref r1, .int 0]))] ++ [(r1, .inl (cI, 150, .inl (fun _ => 0)))]) H := hP
  have hD : va_D A ([(h0, .inr (3, [.ref r1, .int 0]))] ++ [(r1, .inl (cI, 150, .inl (fun _ => 0)))]) := hD
  exact e_iv C0 (Wd := fun q => xw q cI ((0 : Int32), (fun _ => 0))) (q := qv [h0, r1]) rfl hP hD hS (Nat.le_of_ble_eq_true rfl) (Nat.le_of_ble_eq_true rfl) dX5_init_18
def dI0 : RS := (fun _ => 0, fun _ => 0, fun _ => none, none)
abbrev rX4_init : Room := { frames := 1, cells := 2, slots := 90, locals := 12 }
set_option maxHeartbeats 4000000 in
set_option maxRecDepth 100000 in
theorem mX4_init (l : Launch) (dC : Nat → ClassId) (dI : Nat → Nat → Nat) (cI cB cO cL : ClassId) (N0 : Nat) (sT eA : Nat → Nat) (h0 : Nat) (sz : Nat) (hsz : N0 ≤ sz) (hh : N0 ≤ h0) : Met l yX4_init wsX4_init rX4_init (qP N0 sz sT eA (dC, dI) (tYS cI cB cO cL) [(h0, .inr (2, [.null, .null, .int 0, .int 0, .int 0, .null, .int 0, .int 0]))] [.ref h0]) (va_Qv (fun _ : Unit => True) (zI (σ := Unit) (dC, dI) h0 (fun q => dw q cI cO eA dI0) (va_A [(h0, .inr (2, [.null, .null, .int 0, .int 0, .int 0, .null, .int 0, .int 0]))] sz)) (va_A [(h0, .inr (2, [.null, .null, .int 0, .int 0, .int 0, .null, .int 0, .int 0]))] sz)) 2 90 (va_A [(h0, .inr (2, [.null, .null, .int 0, .int 0, .int 0, .null, .int 0, .int 0]))] sz) := by
  refine jMet (cc := cX4_init) (maxL := 1) (ret := none) [(0, .ref h0)] (by decide) rfl rfl rfl ?_
  intro p e s mi below meth c C0 hin hz hK hF hO hP ls hl
  obtain ⟨hx, hb, hr, hml, hown, hts, hlocks⟩ := id C0
  have hown : s.vm.findClass RX4 = some mi.cls := hown
  subst hz
  have hN : ∀ q : Nat, (va_A [(h0, .inr (2, [.null, .null, .int 0, .int 0, .int 0, .null, .int 0, .int 0]))] s.heap.size) q → N0 ≤ q := vA_N (ws := [(h0, .inr (2, [.null, .null, .int 0, .int 0, .int 0, .null, .int 0, .int 0]))]) (fun a ha => by have e9 : a = h0 := List.mem_singleton.mp ha; rw [e9]; exact hh) hsz
  have hA : ∀ q : Nat, s.heap.size ≤ q → (va_A [(h0, .inr (2, [.null, .null, .int 0, .int 0, .int 0, .null, .int 0, .int 0]))] s.heap.size) q := fun q h => Or.inr h
  have hD : va_D (va_A [(h0, .inr (2, [.null, .null, .int 0, .int 0, .int 0, .null, .int 0, .int 0]))] s.heap.size) ([(h0, .inr (2, [.null, .null, .int 0, .int 0, .int 0, .null, .int 0, .int 0]))]) := vD1
  generalize hAe : va_A [(h0, .inr (2, [.null, .null, .int 0, .int 0, .int 0, .null, .int 0, .int 0]))] s.heap.size = A at hN hA hD ⊢
  have hS : va_S A s.heap s.heap [] := va_S.rf
  have hH := hF.2.2.narrow hN
  have hP : va_P (dC, dI) vwCl ([(h0, .inr (2, [.null, .null, .int 0, .int 0, .int 0, .null, .int 0, .int 0]))]) s.heap := hP
  have hin4 : ∀ w ∈ u_ws RX4 TX4 8, w ∈ wsX4_init := by decide +kernel
  have oi5 := hts (.methodLink RX4 5 objectInit) (by decide +kernel)
  have fl15 := hts (.fieldLink RX4 15 "ClickBench$CommandReader" "commands" "[LClickBench$Command;") (by decide +kernel)
  have fl19 := hts (.fieldLink RX4 19 "ClickBench$CommandReader" "numbers" "[I") (by decide +kernel)
  have fl23 := hts (.fieldLink RX4 23 "ClickBench$CommandReader" "count" "I") (by decide +kernel)
  have fl27 := hts (.fieldLink RX4 27 "ClickBench$CommandReader" "place" "I") (by decide +kernel)
  have fl30 := hts (.fieldLink RX4 30 "ClickBench$CommandReader" "wordStart" "I") (by decide +kernel)
  have fl33 := hts (.fieldLink RX4 33 "ClickBench$CommandReader" "command" "LClickBench$Command;") (by decide +kernel)
  have fl37 := hts (.fieldLink RX4 37 "ClickBench$CommandReader" "numbersRead" "I") (by decide +kernel)
  have fl40 := hts (.fieldLink RX4 40 "ClickBench$CommandReader" "digits" "I") (by decide +kernel)
  refine lv_aload_n hx hb dX4_init_0 rfl (lv_at hl 0 rfl) ?_
  refine W.objInit hx hb hown oi5 (hts (.instanceMethod objectInit) (by decide +kernel)) (hts (.code objectInit ⟨#[0xb1]⟩ 1 none) (by decide +kernel)) rfl (by rw [hml]; exact hl.1) rfl dX4_init_1 (Nat.le_of_ble_eq_true rfl) (Nat.le_of_ble_eq_true rfl) ?_
  refine lv_aload_n hx hb dX4_init_4 rfl (lv_at hl 0 rfl) ?_
  refine lv_bipush (v := 18) hx hb dX4_init_5 (by decide) ?_
  refine g_newo (tys := (tYS cI cB cO cL)) (N' := 18) hx hb hown (hts (.classLink RX4 13 RX3) (by decide +kernel)) hO.2 hK hP hD hS hA 2 rfl (by decide) (by decide) (Nat.le_of_ble_eq_true rfl) (Nat.le_of_ble_eq_true rfl) (Nat.le_of_ble_eq_true rfl) dX4_init_7 (fun r1 H hP hD hS => ?_)
  have hP : va_P (dC, dI) vwCl ([(h0, .inr (2, [.null, .null, .int 0, .int 0, .int 0, .null, .int 0, .int 0]))] ++ [(r1, .inl (cO, 18, .inr (.inr (.inr (.inr (fun _ => none))))))]) H := hP
  have hD : va_D A ([(h0, .inr (2, [.null, .null, .int 0, .int 0, .int 0, .null, .int 0, .int 0]))] ++ [(r1, .inl (cO, 18, .inr (.inr (.inr (.inr (fun _ => none))))))]) := hD
  refine va_putF (D := (dC, dI)) (ci := 2) (v := .ref r1) (ty := (.array (.object "ClickBench$Command"))) (C := RX4) (T := TX4) (N := 8) hx hb hts hin4 tyX4 tyX4_ok nmX4 hown hK hP hD hS 0 rfl rfl 0 (by decide) fl15 (fun _ h9 => h9) rfl hin rfl (by decide +kernel) rfl rfl (Nat.le_of_ble_eq_true rfl) dX4_init_10 (fun H locs hP hD hS => ?_)
  have hP : va_P (dC, dI) vwCl ([(h0, .inr (2, [.ref r1, .null, .int 0, .int 0, .int 0, .null, .int 0, .int 0]))] ++ [(r1, .inl (cO, 18, .inr (.inr (.inr (.inr (fun _ => none))))))]) H := hP
  have hD : va_D A ([(h0, .inr (2, [.ref r1, .null, .int 0, .int 0, .int 0, .null, .int 0, .int 0]))] ++ [(r1, .inl (cO, 18, .inr (.inr (.inr (.inr (fun _ => none))))))]) := hD
  refine lv_aload_n hx hb dX4_init_13 rfl (lv_at hl 0 rfl) ?_
  refine lv_bipush (v := 72) hx hb dX4_init_14 (by decide) ?_
  refine g_newi (tys := (tYS cI cB cO cL)) (N' := 72) hx hb (hts (.arrayClass .int) (by decide +kernel)) hK hP hD hS hA 0 rfl (by decide) (by decide) (Nat.le_of_ble_eq_true rfl) (Nat.le_of_ble_eq_true rfl) (Nat.le_of_ble_eq_true rfl) dX4_init_16 (fun r2 H hP hD hS => ?_)
  have hP : va_P (dC, dI) vwCl ([(h0, .inr (2, [.ref r1, .null, .int 0, .int 0, .int 0, .null, .int 0, .int 0]))] ++ [(r1, .inl (cO, 18, .inr (.inr (.inr (.inr (fun _ => none))))))] ++ [(r2, .inl (cI, 72, .inl (fun _ => 0)))]) H := hP
  have hD : va_D A ([(h0, .inr (2, [.ref r1, .null, .int 0, .int 0, .int 0, .null, .int 0, .int 0]))] ++ [(r1, .inl (cO, 18, .inr (.inr (.inr (.inr (fun _ => none))))))] ++ [(r2, .inl (cI, 72, .inl (fun _ => 0)))]) := hD
  refine va_putF (D := (dC, dI)) (ci := 2) (v := .ref r2) (ty := (.array .int)) (C := RX4) (T := TX4) (N := 8) hx hb hts hin4 tyX4 tyX4_ok nmX4 hown hK hP hD hS 0 rfl rfl 1 (by decide) fl19 (fun _ h9 => h9) rfl hin rfl (by decide +kernel) rfl rfl (Nat.le_of_ble_eq_true rfl) dX4_init_18 (fun H locs hP hD hS => ?_)
  have hP : va_P (dC, dI) vwCl ([(h0, .inr (2, [.ref r1, .ref r2, .int 0, .int 0, .int 0, .null, .int 0, .int 0]))] ++ [(r1, .inl (cO, 18, .inr (.inr (.inr (.inr (fun _ => none))))))] ++ [(r2, .inl (cI, 72, .inl (fun _ => 0)))]) H := hP
  have hD : va_D A ([(h0, .inr (2, [.ref r1, .ref r2, .int 0, .int 0, .int 0, .null, .int 0, .int 0]))] ++ [(r1, .inl (cO, 18, .inr (.inr (.inr (.inr (fun _ => none))))))] ++ [(r2, .inl (cI, 72, .inl (fun _ => 0)))]) := hD
  refine lv_aload_n hx hb dX4_init_21 rfl (lv_at hl 0 rfl) ?_
  refine lv_iconst (v := 0) hx hb dX4_init_22 (by decide) ?_
  refine va_put (D := (dC, dI)) (ci := 2) (v := .int 0) (ty := .int) (C := RX4) (T := TX4) (N := 8) hx hb hts hin4 tyX4 tyX4_ok nmX4 hown hK hP hD hS 0 rfl rfl 2 (by decide) fl23 (fun _ h9 => h9) rfl (by decide +kernel) rfl rfl (Nat.le_of_ble_eq_true rfl) dX4_init_23 (fun H locs hP hD hS => ?_)
  have hP : va_P (dC, dI) vwCl ([(h0, .inr (2, [.ref r1, .ref r2, .int 0, .int 0, .int 0, .null, .int 0, .int 0]))] ++ [(r1, .inl (cO, 18, .inr (.inr (.inr (.inr (fun _ => none))))))] ++ [(r2, .inl (cI, 72, .inl (fun _ => 0)))]) H := hP
  have hD : va_D A ([(h0, .inr (2, [.ref r1, .ref r2, .int 0, .int 0, .int 0, .null, .int 0, .int 0]))] ++ [(r1, .inl (cO, 18, .inr (.inr (.inr (.inr (fun _ => none))))))] ++ [(r2, .inl (cI, 72, .inl (fun _ => 0)))]) := hD
  refine lv_aload_n hx hb dX4_init_26 rfl (lv_at hl 0 rfl) ?_
  refine lv_iconst (v := 0) hx hb dX4_init_27 (by decide) ?_
  refine va_put (D := (dC, dI)) (ci := 2) (v := .int 0) (ty := .int) (C := RX4) (T := TX4) (N := 8) hx hb hts hin4 tyX4 tyX4_ok nmX4 hown hK hP hD hS 0 rfl rfl 3 (by decide) fl27 (fun _ h9 => h9) rfl (by decide +kernel) rfl rfl (Nat.le_of_ble_eq_true rfl) dX4_init_28 (fun H locs hP hD hS => ?_)
  have hP : va_P (dC, dI) vwCl ([(h0, .inr (2, [.ref r1, .ref r2, .int 0, .int 0, .int 0, .null, .int 0, .int 0]))] ++ [(r1, .inl (cO, 18, .inr (.inr (.inr (.inr (fun _ => none))))))] ++ [(r2, .inl (cI, 72, .inl (fun _ => 0)))]) H := hP
  have hD : va_D A ([(h0, .inr (2, [.ref r1, .ref r2, .int 0, .int 0, .int 0, .null, .int 0, .int 0]))] ++ [(r1, .inl (cO, 18, .inr (.inr (.inr (.inr (fun _ => none))))))] ++ [(r2, .inl (cI, 72, .inl (fun _ => 0)))]) := hD
  refine lv_aload_n hx hb dX4_init_31 rfl (lv_at hl 0 rfl) ?_
  refine lv_iconst (v := 0) hx hb dX4_init_32 (by decide) ?_
  refine va_put (D := (dC, dI)) (ci := 2) (v := .int 0) (ty := .int) (C := RX4) (T := TX4) (N := 8) hx hb hts hin4 tyX4 tyX4_ok nmX4 hown hK hP hD hS 0 rfl rfl 4 (by decide) fl30 (fun _ h9 => h9) rfl (by decide +kernel) rfl rfl (Nat.le_of_ble_eq_true rfl) dX4_init_33 (fun H locs hP hD hS => ?_)
  have hP : va_P (dC, dI) vwCl ([(h0, .inr (2, [.ref r1, .ref r2, .int 0, .int 0, .int 0, .null, .int 0, .int 0]))] ++ [(r1, .inl (cO, 18, .inr (.inr (.inr (.inr (fun _ => none))))))] ++ [(r2, .inl (cI, 72, .inl (fun _ => 0)))]) H := hP
  have hD : va_D A ([(h0, .inr (2, [.ref r1, .ref r2, .int 0, .int 0, .int 0, .null, .int 0, .int 0]))] ++ [(r1, .inl (cO, 18, .inr (.inr (.inr (.inr (fun _ => none))))))] ++ [(r2, .inl (cI, 72, .inl (fun _ => 0)))]) := hD
  refine lv_aload_n hx hb dX4_init_36 rfl (lv_at hl 0 rfl) ?_
  refine lv_null hx hb dX4_init_37 ?_
  refine va_put (D := (dC, dI)) (ci := 2) (v := .null) (ty := (.object "ClickBench$Command")) (C := RX4) (T := TX4) (N := 8) hx hb hts hin4 tyX4 tyX4_ok nmX4 hown hK hP hD hS 0 rfl rfl 5 (by decide) fl33 (fun _ h9 => h9) rfl (by decide +kernel) rfl rfl (Nat.le_of_ble_eq_true rfl) dX4_init_38 (fun H locs hP hD hS => ?_)
  have hP : va_P (dC, dI) vwCl ([(h0, .inr (2, [.ref r1, .ref r2, .int 0, .int 0, .int 0, .null, .int 0, .int 0]))] ++ [(r1, .inl (cO, 18, .inr (.inr (.inr (.inr (fun _ => none))))))] ++ [(r2, .inl (cI, 72, .inl (fun _ => 0)))]) H := hP
  have hD : va_D A ([(h0, .inr (2, [.ref r1, .ref r2, .int 0, .int 0, .int 0, .null, .int 0, .int 0]))] ++ [(r1, .inl (cO, 18, .inr (.inr (.inr (.inr (fun _ => none))))))] ++ [(r2, .inl (cI, 72, .inl (fun _ => 0)))]) := hD
  refine lv_aload_n hx hb dX4_init_41 rfl (lv_at hl 0 rfl) ?_
  refine lv_iconst (v := 0) hx hb dX4_init_42 (by decide) ?_
  refine va_put (D := (dC, dI)) (ci := 2) (v := .int 0) (ty := .int) (C := RX4) (T := TX4) (N := 8) hx hb hts hin4 tyX4 tyX4_ok nmX4 hown hK hP hD hS 0 rfl rfl 6 (by decide) fl37 (fun _ h9 => h9) rfl (by decide +kernel) rfl rfl (Nat.le_of_ble_eq_true rfl) dX4_init_43 (fun H locs hP hD hS => ?_)
  have hP : va_P (dC, dI) vwCl ([(h0, .inr (2, [.ref r1, .ref r2, .int 0, .int 0, .int 0, .null, .int 0, .int 0]))] ++ [(r1, .inl (cO, 18, .inr (.inr (.inr (.inr (fun _ => none))))))] ++ [(r2, .inl (cI, 72, .inl (fun _ => 0)))]) H := hP
  have hD : va_D A ([(h0, .inr (2, [.ref r1, .ref r2, .int 0, .int 0, .int 0, .null, .int 0, .int 0]))] ++ [(r1, .inl (cO, 18, .inr (.inr (.inr (.inr (fun _ => none))))))] ++ [(r2, .inl (cI, 72, .inl (fun _ => 0)))]) := hD
  refine lv_aload_n hx hb dX4_init_46 rfl (lv_at hl 0 rfl) ?_
  refine lv_iconst (v := 0) hx hb dX4_init_47 (by decide) ?_
  refine va_put (D := (dC, dI)) (ci := 2) (v := .int 0) (ty := .int) (C := RX4) (T := TX4) (N := 8) hx hb hts hin4 tyX4 tyX4_ok nmX4 hown hK hP hD hS 0 rfl rfl 7 (by decide) fl40 (fun _ h9 => h9) rfl (by decide +kernel) rfl rfl (Nat.le_of_ble_eq_true rfl) dX4_init_48 (fun H locs hP hD hS => ?_)
  have hP : va_P (dC, dI) vwCl ([(h0, .inr (2, [.ref r1, .ref r2, .int 0, .int 0, .int 0, .null, .int 0, .int 0]))] ++ [(r1, .inl (cO, 18, .inr (.inr (.inr (.inr (fun _ => none))))))] ++ [(r2, .inl (cI, 72, .inl (fun _ => 0)))]) H := hP
  have hD : va_D A ([(h0, .inr (2, [.ref r1, .ref r2, .int 0, .int 0, .int 0, .null, .int 0, .int 0]))] ++ [(r1, .inl (cO, 18, .inr (.inr (.inr (.inr (fun _ => none))))))] ++ [(r2, .inl (cI, 72, .inl (fun _ => 0)))]) := hD
  exact e_iv C0 (Wd := fun q => dw q cI cO eA dI0) (q := qv [h0, r1, r2]) rfl hP hD hS (Nat.le_of_ble_eq_true rfl) (Nat.le_of_ble_eq_true rfl) dX4_init_51
end INITS
