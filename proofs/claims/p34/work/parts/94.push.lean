abbrev uw4 (q : Nat → Nat) (cI cB : ClassId) (f : Nat → Int32) (b0 b1 b2 b3 : BS) : va_W := [(q 0, .inr (7, [.ref (q 1), .int (f 0), .int (f 1)])), (q 1, .inl (cB, 4, .inr (.inr (.inr (.inr (fun k => some (q (2 + 9 * k))))))))] ++ bw (ush q 2) cI b0 ++ bw (ush q 11) cI b1 ++ bw (ush q 20) cI b2 ++ bw (ush q 29) cI b3
theorem gpatch_app : ∀ (i1 i2 : List Nat) (e1 e2 ws : va_W), i1.length = e1.length → gpatch ws (i1 ++ i2) (e1 ++ e2) = gpatch (gpatch ws i1 e1) i2 e2 := by
  intro i1
  induction i1 with
  | nil =>
    intro i2 e1 e2 ws h
    cases e1 with
    | nil => cases i2 <;> rfl
    | cons e es => exact absurd h (by simp)
  | cons i is ih =>
    intro i2 e1 e2 ws h
    cases e1 with
    | nil => exact absurd h (by simp)
    | cons e es => exact ih i2 es e2 (ws.set i e) (by simpa using h)
theorem set_at : ∀ (P R : va_W) (x y : Nat × va_E), (P ++ x :: R).set P.length y = P ++ y :: R := by
  intro P
  induction P with
  | nil => intro R x y; rfl
  | cons p P ih => intro R x y; exact congrArg (List.cons p) (ih R x y)
theorem gpatch_block : ∀ (X X' P R : va_W), X.length = X'.length → gpatch (P ++ X ++ R) (List.range' P.length X.length) X' = P ++ X' ++ R := by
  intro X
  induction X with
  | nil =>
    intro X' P R h
    cases X' with
    | nil => rfl
    | cons e es => exact absurd h (by simp)
  | cons x X ih =>
    intro X' P R h
    cases X' with
    | nil => exact absurd h (by simp)
    | cons y Y =>
      show gpatch ((P ++ x :: X ++ R).set P.length y) (List.range' (P.length + 1) X.length) Y = _
      rw [List.append_assoc, List.cons_append, set_at]
      have r := ih Y (P ++ [y]) R (by simpa using h)
      rw [List.length_append] at r
      simp only [List.append_assoc, List.cons_append, List.nil_append, List.length_cons, List.length_nil] at r ⊢
      exact r
theorem gp_a (P X X' Q Y Y' : va_W) (i1 i2 : List Nat) (h1 : i1 = List.range' P.length X.length) (h2 : i2 = List.range' (P ++ X' ++ Q).length Y.length) (hx : X.length = X'.length) (hy : Y.length = Y'.length) : gpatch (P ++ X ++ (Q ++ Y)) (i1 ++ i2) (X' ++ Y') = P ++ X' ++ Q ++ Y' := by
  rw [gpatch_app _ _ _ _ _ (by rw [h1, List.length_range', hx]), h1, gpatch_block _ _ _ _ hx, h2]
  have r := gpatch_block Y Y' (P ++ X' ++ Q) [] hy
  rw [List.append_nil, List.append_nil] at r
  rw [← List.append_assoc]
  exact r
theorem gp_b (P X X' Q Y Y' : va_W) (i1 i2 : List Nat) (h1 : i1 = List.range' P.length X.length) (h2 : i2 = List.range' (P ++ X ++ Q).length Y.length) (hx : X.length = X'.length) (hy : Y.length = Y'.length) : gpatch (P ++ X ++ Q ++ Y) (i2 ++ i1) (Y' ++ X') = P ++ X' ++ (Q ++ Y') := by
  have r := gpatch_block Y Y' (P ++ X ++ Q) [] hy
  rw [List.append_nil, List.append_nil] at r
  rw [gpatch_app _ _ _ _ _ (by rw [h2, List.length_range', hy]), h2, r, h1, List.append_assoc (P ++ X), gpatch_block _ _ _ _ hx]
theorem gp_a0 (q qb : Nat → Nat) (cI cB : ClassId) (f : Nat → Int32) (b0 b1 b2 b3 c x y : BS) : gpatch (uw4 q cI cB f b0 b1 b2 b3 ++ bw qb cI c) [2, 3, 4, 5, 6, 7, 8, 9, 10, 38, 39, 40, 41, 42, 43, 44, 45, 46] (bw (ush q 2) cI x ++ bw qb cI y) = uw4 q cI cB f x b1 b2 b3 ++ bw qb cI y := by
  have r := gp_a (([(q 0, .inr (7, [.ref (q 1), .int (f 0), .int (f 1)])), (q 1, .inl (cB, 4, .inr (.inr (.inr (.inr (fun k => some (q (2 + 9 * k))))))))] : va_W)) (bw (ush q 2) cI b0) (bw (ush q 2) cI x) (bw (ush q 11) cI b1 ++ bw (ush q 20) cI b2 ++ bw (ush q 29) cI b3) (bw qb cI c) (bw qb cI y) [2, 3, 4, 5, 6, 7, 8, 9, 10] [38, 39, 40, 41, 42, 43, 44, 45, 46] rfl rfl rfl rfl
  simp only [List.append_assoc, List.nil_append] at r ⊢
  exact r
theorem gp_b0 (q qb : Nat → Nat) (cI cB : ClassId) (f : Nat → Int32) (b0 b1 b2 b3 c x y : BS) : gpatch (uw4 q cI cB f b0 b1 b2 b3 ++ bw qb cI c) [38, 39, 40, 41, 42, 43, 44, 45, 46, 2, 3, 4, 5, 6, 7, 8, 9, 10] (bw qb cI y ++ bw (ush q 2) cI x) = uw4 q cI cB f x b1 b2 b3 ++ bw qb cI y := by
  have r := gp_b (([(q 0, .inr (7, [.ref (q 1), .int (f 0), .int (f 1)])), (q 1, .inl (cB, 4, .inr (.inr (.inr (.inr (fun k => some (q (2 + 9 * k))))))))] : va_W)) (bw (ush q 2) cI b0) (bw (ush q 2) cI x) (bw (ush q 11) cI b1 ++ bw (ush q 20) cI b2 ++ bw (ush q 29) cI b3) (bw qb cI c) (bw qb cI y) [2, 3, 4, 5, 6, 7, 8, 9, 10] [38, 39, 40, 41, 42, 43, 44, 45, 46] rfl rfl rfl rfl
  simp only [List.append_assoc, List.nil_append] at r ⊢
  exact r
theorem gp_a1 (q qb : Nat → Nat) (cI cB : ClassId) (f : Nat → Int32) (b0 b1 b2 b3 c x y : BS) : gpatch (uw4 q cI cB f b0 b1 b2 b3 ++ bw qb cI c) [11, 12, 13, 14, 15, 16, 17, 18, 19, 38, 39, 40, 41, 42, 43, 44, 45, 46] (bw (ush q 11) cI x ++ bw qb cI y) = uw4 q cI cB f b0 x b2 b3 ++ bw qb cI y := by
  have r := gp_a (([(q 0, .inr (7, [.ref (q 1), .int (f 0), .int (f 1)])), (q 1, .inl (cB, 4, .inr (.inr (.inr (.inr (fun k => some (q (2 + 9 * k))))))))] : va_W) ++ bw (ush q 2) cI b0) (bw (ush q 11) cI b1) (bw (ush q 11) cI x) (bw (ush q 20) cI b2 ++ bw (ush q 29) cI b3) (bw qb cI c) (bw qb cI y) [11, 12, 13, 14, 15, 16, 17, 18, 19] [38, 39, 40, 41, 42, 43, 44, 45, 46] rfl rfl rfl rfl
  simp only [List.append_assoc, List.nil_append] at r ⊢
  exact r
theorem gp_b1 (q qb : Nat → Nat) (cI cB : ClassId) (f : Nat → Int32) (b0 b1 b2 b3 c x y : BS) : gpatch (uw4 q cI cB f b0 b1 b2 b3 ++ bw qb cI c) [38, 39, 40, 41, 42, 43, 44, 45, 46, 11, 12, 13, 14, 15, 16, 17, 18, 19] (bw qb cI y ++ bw (ush q 11) cI x) = uw4 q cI cB f b0 x b2 b3 ++ bw qb cI y := by
  have r := gp_b (([(q 0, .inr (7, [.ref (q 1), .int (f 0), .int (f 1)])), (q 1, .inl (cB, 4, .inr (.inr (.inr (.inr (fun k => some (q (2 + 9 * k))))))))] : va_W) ++ bw (ush q 2) cI b0) (bw (ush q 11) cI b1) (bw (ush q 11) cI x) (bw (ush q 20) cI b2 ++ bw (ush q 29) cI b3) (bw qb cI c) (bw qb cI y) [11, 12, 13, 14, 15, 16, 17, 18, 19] [38, 39, 40, 41, 42, 43, 44, 45, 46] rfl rfl rfl rfl
  simp only [List.append_assoc, List.nil_append] at r ⊢
  exact r
theorem gp_a2 (q qb : Nat → Nat) (cI cB : ClassId) (f : Nat → Int32) (b0 b1 b2 b3 c x y : BS) : gpatch (uw4 q cI cB f b0 b1 b2 b3 ++ bw qb cI c) [20, 21, 22, 23, 24, 25, 26, 27, 28, 38, 39, 40, 41, 42, 43, 44, 45, 46] (bw (ush q 20) cI x ++ bw qb cI y) = uw4 q cI cB f b0 b1 x b3 ++ bw qb cI y := by
  have r := gp_a (([(q 0, .inr (7, [.ref (q 1), .int (f 0), .int (f 1)])), (q 1, .inl (cB, 4, .inr (.inr (.inr (.inr (fun k => some (q (2 + 9 * k))))))))] : va_W) ++ bw (ush q 2) cI b0 ++ bw (ush q 11) cI b1) (bw (ush q 20) cI b2) (bw (ush q 20) cI x) (bw (ush q 29) cI b3) (bw qb cI c) (bw qb cI y) [20, 21, 22, 23, 24, 25, 26, 27, 28] [38, 39, 40, 41, 42, 43, 44, 45, 46] rfl rfl rfl rfl
  simp only [List.append_assoc, List.nil_append] at r ⊢
  exact r
theorem gp_b2 (q qb : Nat → Nat) (cI cB : ClassId) (f : Nat → Int32) (b0 b1 b2 b3 c x y : BS) : gpatch (uw4 q cI cB f b0 b1 b2 b3 ++ bw qb cI c) [38, 39, 40, 41, 42, 43, 44, 45, 46, 20, 21, 22, 23, 24, 25, 26, 27, 28] (bw qb cI y ++ bw (ush q 20) cI x) = uw4 q cI cB f b0 b1 x b3 ++ bw qb cI y := by
  have r := gp_b (([(q 0, .inr (7, [.ref (q 1), .int (f 0), .int (f 1)])), (q 1, .inl (cB, 4, .inr (.inr (.inr (.inr (fun k => some (q (2 + 9 * k))))))))] : va_W) ++ bw (ush q 2) cI b0 ++ bw (ush q 11) cI b1) (bw (ush q 20) cI b2) (bw (ush q 20) cI x) (bw (ush q 29) cI b3) (bw qb cI c) (bw qb cI y) [20, 21, 22, 23, 24, 25, 26, 27, 28] [38, 39, 40, 41, 42, 43, 44, 45, 46] rfl rfl rfl rfl
  simp only [List.append_assoc, List.nil_append] at r ⊢
  exact r
theorem gp_a3 (q qb : Nat → Nat) (cI cB : ClassId) (f : Nat → Int32) (b0 b1 b2 b3 c x y : BS) : gpatch (uw4 q cI cB f b0 b1 b2 b3 ++ bw qb cI c) [29, 30, 31, 32, 33, 34, 35, 36, 37, 38, 39, 40, 41, 42, 43, 44, 45, 46] (bw (ush q 29) cI x ++ bw qb cI y) = uw4 q cI cB f b0 b1 b2 x ++ bw qb cI y := by
  have r := gp_a (([(q 0, .inr (7, [.ref (q 1), .int (f 0), .int (f 1)])), (q 1, .inl (cB, 4, .inr (.inr (.inr (.inr (fun k => some (q (2 + 9 * k))))))))] : va_W) ++ bw (ush q 2) cI b0 ++ bw (ush q 11) cI b1 ++ bw (ush q 20) cI b2) (bw (ush q 29) cI b3) (bw (ush q 29) cI x) (([] : va_W)) (bw qb cI c) (bw qb cI y) [29, 30, 31, 32, 33, 34, 35, 36, 37] [38, 39, 40, 41, 42, 43, 44, 45, 46] rfl rfl rfl rfl
  simp only [List.append_assoc, List.nil_append] at r ⊢
  exact r
theorem gp_b3 (q qb : Nat → Nat) (cI cB : ClassId) (f : Nat → Int32) (b0 b1 b2 b3 c x y : BS) : gpatch (uw4 q cI cB f b0 b1 b2 b3 ++ bw qb cI c) [38, 39, 40, 41, 42, 43, 44, 45, 46, 29, 30, 31, 32, 33, 34, 35, 36, 37] (bw qb cI y ++ bw (ush q 29) cI x) = uw4 q cI cB f b0 b1 b2 x ++ bw qb cI y := by
  have r := gp_b (([(q 0, .inr (7, [.ref (q 1), .int (f 0), .int (f 1)])), (q 1, .inl (cB, 4, .inr (.inr (.inr (.inr (fun k => some (q (2 + 9 * k))))))))] : va_W) ++ bw (ush q 2) cI b0 ++ bw (ush q 11) cI b1 ++ bw (ush q 20) cI b2) (bw (ush q 29) cI b3) (bw (ush q 29) cI x) (([] : va_W)) (bw qb cI c) (bw qb cI y) [29, 30, 31, 32, 33, 34, 35, 36, 37] [38, 39, 40, 41, 42, 43, 44, 45, 46] rfl rfl rfl rfl
  simp only [List.append_assoc, List.nil_append] at r ⊢
  exact r
abbrev rX10_push : Room := { frames := 3, cells := 0, slots := 0, locals := 82 }
set_option maxHeartbeats 4000000 in
set_option maxRecDepth 100000 in
theorem mX10_push (l : Launch) (dC : Nat → ClassId) (dI : Nat → Nat → Nat) (cI cB cO cL : ClassId) (qu : Nat → Nat) (qb : Nat → Nat) (u : US) (b : BS) (hI : gD (fun _ => True) (uAd qu ++ bAd qb)) (hok : kX10_push u b) : Met l yX10_push wsX10_push rX10_push (cP (dC, dI) (tYS cI cB cO cL) (uw qu cI cB u ++ bw qb cI b) [.ref (qu 0), .ref (qb 0)]) (gQv (dC, dI) (fun z9 : US × BS => uw qu cI cB z9.1 ++ bw qb cI z9.2) (wA (uw qu cI cB u ++ bw qb cI b)) (pX10_push u b)) 0 0 (wA (uw qu cI cB u ++ bw qb cI b)) := by
  refine cMet (cc := cX10_push) (maxL := 3) (ret := none) [(0, .ref (qu 0)), (1, .ref (qb 0))] (by decide) rfl rfl rfl ?_
  intro p e s mi below meth c C0 hK hE hP ls hl
  obtain ⟨hx, hb, hr, hml, hown, hts, hlocks⟩ := id C0
  have hown : s.vm.findClass RX10 = some mi.cls := hown
  have hS : va_S (wA (uw qu cI cB u ++ bw qb cI b)) s.heap s.heap [] := va_S.rf
  have hD : gD (wA (uw qu cI cB u ++ bw qb cI b)) (uAd qu ++ bAd qb) := gD_wA (ws := uw qu cI cB u ++ bw qb cI b) hI
  have hP : va_P (dC, dI) vwCl (uw qu cI cB u ++ bw qb cI b) s.heap := hP
  obtain ⟨F, hF⟩ : ∃ F, F = pX10_push u b := ⟨_, rfl⟩
  have hf := hF
  have hin10 : ∀ w ∈ u_ws RX10 TX10 3, w ∈ wsX10_push := by decide +kernel
  have fl11 := hts (.fieldLink RX10 11 "ClickBench$UndoStack" "ring" "[LClickBench$Bench;") (by decide +kernel)
  have fl17 := hts (.fieldLink RX10 17 "ClickBench$UndoStack" "next" "I") (by decide +kernel)
  have fl21 := hts (.fieldLink RX10 21 "ClickBench$UndoStack" "depth" "I") (by decide +kernel)
  have ml29 := hts (.methodLink RX10 29 Lib.Math.min.name) (by decide +kernel)
  have ms29 := hts (.static Lib.Math.min.name) (by decide +kernel)
  have mI := hts (.initialized "java/lang/Math") (by decide +kernel)
  have mc29 := hts (.code Lib.Math.min.name Lib.Math.min.code 2 (some .int)) (by decide +kernel)
  have J_19 : ∀ (u_19 : US) (b_19 : BS) (H : Heap) (locs : List Loc), va_P (dC, dI) vwCl (uw qu cI cB u_19 ++ bw qb cI b_19) H → va_S (wA (uw qu cI cB u ++ bw qb cI b)) s.heap H locs → ∀ ls : Array Slot, lv_has ls 3 [(0, .ref (qu 0))] → F = pX10_push_L19 u_19 b_19 → W p l e rX10_push s mi ([.ref (qu 0), .ref (qb 0)] : List Value).toArray below meth c H locs 0 0 (MQ below (gQv (dC, dI) (fun z9 : US × BS => uw qu cI cB z9.1 ++ bw qb cI z9.2) (wA (uw qu cI cB u ++ bw qb cI b)) (pX10_push u b)) ([.ref (qu 0), .ref (qb 0)] : List Value).toArray s 0 0 (wA (uw qu cI cB u ++ bw qb cI b))) (F0 mi 19 ls []) := by
    intro u_19 b_19 H locs hP hS ls hl hf
    refine lv_aload_n hx hb dX10_push_19 rfl (lv_at hl 0 rfl) ?_
    refine lv_aload_n hx hb dX10_push_20 rfl (lv_at hl 0 rfl) ?_
    refine va_get (D := (dC, dI)) (ci := 7) (v := .int (u_19.1 0)) (C := RX10) (T := TX10) (N := 3) hx hb hts hin10 hown hK hP 0 rfl rfl 1 (by decide) fl17 (fun _ h9 => h9) rfl dX10_push_21 ?_
    refine lv_iconst (v := 1) hx hb dX10_push_24 (by decide) ?_
    refine lv_iadd hx hb dX10_push_25 ?_
    refine lv_iconst (v := 4) hx hb dX10_push_26 (by decide) ?_
    refine lv_irem hx hb dX10_push_27 (by decide) ?_
    refine va_put (D := (dC, dI)) (ci := 7) (v := .int (((u_19.1 0) + 1) - ((u_19.1 0) + 1) / 4 * 4)) (ty := .int) (C := RX10) (T := TX10) (N := 3) hx hb hts hin10 tyX10 tyX10_ok nmX10 hown hK hP (gD_va hD rfl) hS 0 rfl rfl 1 (by decide) fl17 (fun _ h9 => h9) rfl (by decide +kernel) rfl rfl (Nat.le_of_ble_eq_true rfl) dX10_push_28 (fun H locs hP _ hS => ?_)
    obtain ⟨u_5, eu_5⟩ : ∃ z9 : US, z9 = usi u_19 0 (((u_19.1 0) + 1) - ((u_19.1 0) + 1) / 4 * 4) := ⟨_, rfl⟩
    have hP : va_P (dC, dI) vwCl (uw qu cI cB u_5 ++ bw qb cI b_19) H := by rw [eu_5]; exact hP
    have hf := lt_eq eu_5 hf
    refine lv_aload_n hx hb dX10_push_31 rfl (lv_at hl 0 rfl) ?_
    refine lv_aload_n hx hb dX10_push_32 rfl (lv_at hl 0 rfl) ?_
    refine va_get (D := (dC, dI)) (ci := 7) (v := .int (u_5.1 1)) (C := RX10) (T := TX10) (N := 3) hx hb hts hin10 hown hK hP 0 rfl rfl 2 (by decide) fl21 (fun _ h9 => h9) rfl dX10_push_33 ?_
    refine lv_iconst (v := 1) hx hb dX10_push_36 (by decide) ?_
    refine lv_iadd hx hb dX10_push_37 ?_
    refine lv_iconst (v := 4) hx hb dX10_push_38 (by decide) ?_
    refine va_mmin hx hb (hml.trans hl.1.symm) hown ml29 ms29 mI mc29 (Nat.le_of_ble_eq_true rfl) (Nat.le_of_ble_eq_true rfl) (Nat.zero_le _) (Nat.zero_le _) dX10_push_39 ?_
    refine va_put (D := (dC, dI)) (ci := 7) (v := .int (jmin ((u_5.1 1) + 1) 4)) (ty := .int) (C := RX10) (T := TX10) (N := 3) hx hb hts hin10 tyX10 tyX10_ok nmX10 hown hK hP (gD_va hD rfl) hS 0 rfl rfl 2 (by decide) fl21 (fun _ h9 => h9) rfl (by decide +kernel) rfl rfl (Nat.le_of_ble_eq_true rfl) dX10_push_42 (fun H locs hP _ hS => ?_)
    obtain ⟨u_6, eu_6⟩ : ∃ z9 : US, z9 = usi u_5 1 (jmin ((u_5.1 1) + 1) 4) := ⟨_, rfl⟩
    have hP : va_P (dC, dI) vwCl (uw qu cI cB u_6 ++ bw qb cI b_19) H := by rw [eu_6]; exact hP
    have hf := lt_eq eu_6 hf
    exact e_mv C0 (hf.symm.trans hF) hP hS dX10_push_45
  refine lv_aload_n hx hb dX10_push_0 rfl (lv_at hl 0 rfl) ?_
  refine va_get (D := (dC, dI)) (ci := 7) (v := .ref (qu 1)) (C := RX10) (T := TX10) (N := 3) hx hb hts hin10 hown hK hP 0 rfl rfl 0 (by decide) fl11 (fun _ h9 => h9) rfl dX10_push_1 ?_
  refine lv_aload_n hx hb dX10_push_4 rfl (lv_at hl 0 rfl) ?_
  refine va_get (D := (dC, dI)) (ci := 7) (v := .int (u.1 0)) (C := RX10) (T := TX10) (N := 3) hx hb hts hin10 hown hK hP 0 rfl rfl 1 (by decide) fl17 (fun _ h9 => h9) rfl dX10_push_5 ?_
  by_cases c1 : (u.1 0) = 0
  · have hf := it_eq c1 hf
    have hok := it_ok c1 hok
    refine g_aaldK (D := (dC, dI)) (tys := (tYS cI cB cO cL)) (k := 0) (x := qu 2) hx hb hK hP 1 1 rfl rfl (by rw [c1]; rfl) (by rw [c1]; decide) (by decide) rfl dX10_push_8 ?_
    refine lv_astore_n (lv' := [(2, .ref (qu 2)), (0, .ref (qu 0)), (1, .ref (qb 0))]) hx hb dX10_push_9 rfl hl (by decide) rfl (fun ls hl => ?_)
    refine lv_aload_n hx hb dX10_push_10 rfl (lv_at hl 0 rfl) ?_
    refine lv_ifnull hx hb dX10_push_11 ?_
    refine lv_aload_n hx hb dX10_push_14 rfl (lv_at hl 0 rfl) ?_
    refine lv_aload_n hx hb dX10_push_15 rfl (lv_at hl 2 rfl) ?_
    have h2 : kX2_copyFrom (u.2 0) b := hok
    have hPc := hP.sub (ws' := bw (ush qu 2) cI (u.2 0) ++ bw qb cI b) [2, 3, 4, 5, 6, 7, 8, 9, 10, 38, 39, 40, 41, 42, 43, 44, 45, 46] rfl
    refine gmu_v (va_runV (As := [.ref (qb 0)]) (rest := []) ⟨hx, hb, hml, hown, hts⟩ (mX2_copyFrom l dC dI cI cB cO cL (ush qu 2) qb (u.2 0) b (gD_subT hD [2, 3, 4, 5, 6, 7, 8, 9, 10, 38, 39, 40, 41, 42, 43, 44, 45, 46] rfl rfl) h2) (cwV 1 hts gX10_push_X2_copyFrom rfl rfl rfl (by decide +kernel) ⟨Nat.le_of_ble_eq_true rfl, Nat.le_of_ble_eq_true rfl⟩) ⟨cP_blind, va_recv hK hPc (ci := 1) (q0 := 0) rfl rfl, cP_ok hPc hK hE⟩ rfl rfl hl.1 rfl (lv_room (Nat.le_of_ble_eq_true rfl)) dX10_push_16 ⟨Nat.zero_le _, Nat.zero_le _⟩) hP (gD_va hD rfl) hS [2, 3, 4, 5, 6, 7, 8, 9, 10, 38, 39, 40, 41, 42, 43, 44, 45, 46] rfl (fun _ => rfl) (fun u4 H locs hw hP hS => ?_)
    have hP := (congrArg (fun z => va_P (dC, dI) vwCl z H) (gp_a0 qu qb cI cB u.1 (u.2 0) (u.2 1) (u.2 2) (u.2 3) _ u4.1 u4.2)).mp hP
    have hP : va_P (dC, dI) vwCl (uw qu cI cB (usb u 0 u4.1) ++ bw qb cI u4.2) H := hP
    have hf := lt_eq hw hf
    exact J_19 (usb u 0 u4.1) u4.2 _ _ hP hS _ (lv_sub hl [1] rfl) hf
  · have hf := ie_eq c1 hf
    have hok := ie_ok c1 hok
    by_cases c7 : (u.1 0) = 1
    · have hf := it_eq c7 hf
      have hok := it_ok c7 hok
      refine g_aaldK (D := (dC, dI)) (tys := (tYS cI cB cO cL)) (k := 1) (x := qu 11) hx hb hK hP 1 1 rfl rfl (by rw [c7]; rfl) (by rw [c7]; decide) (by decide) rfl dX10_push_8 ?_
      refine lv_astore_n (lv' := [(2, .ref (qu 11)), (0, .ref (qu 0)), (1, .ref (qb 0))]) hx hb dX10_push_9 rfl hl (by decide) rfl (fun ls hl => ?_)
      refine lv_aload_n hx hb dX10_push_10 rfl (lv_at hl 0 rfl) ?_
      refine lv_ifnull hx hb dX10_push_11 ?_
      refine lv_aload_n hx hb dX10_push_14 rfl (lv_at hl 0 rfl) ?_
      refine lv_aload_n hx hb dX10_push_15 rfl (lv_at hl 2 rfl) ?_
      have h8 : kX2_copyFrom (u.2 1) b := hok
      have hPc := hP.sub (ws' := bw (ush qu 11) cI (u.2 1) ++ bw qb cI b) [11, 12, 13, 14, 15, 16, 17, 18, 19, 38, 39, 40, 41, 42, 43, 44, 45, 46] rfl
      refine gmu_v (va_runV (As := [.ref (qb 0)]) (rest := []) ⟨hx, hb, hml, hown, hts⟩ (mX2_copyFrom l dC dI cI cB cO cL (ush qu 11) qb (u.2 1) b (gD_subT hD [11, 12, 13, 14, 15, 16, 17, 18, 19, 38, 39, 40, 41, 42, 43, 44, 45, 46] rfl rfl) h8) (cwV 1 hts gX10_push_X2_copyFrom rfl rfl rfl (by decide +kernel) ⟨Nat.le_of_ble_eq_true rfl, Nat.le_of_ble_eq_true rfl⟩) ⟨cP_blind, va_recv hK hPc (ci := 1) (q0 := 0) rfl rfl, cP_ok hPc hK hE⟩ rfl rfl hl.1 rfl (lv_room (Nat.le_of_ble_eq_true rfl)) dX10_push_16 ⟨Nat.zero_le _, Nat.zero_le _⟩) hP (gD_va hD rfl) hS [11, 12, 13, 14, 15, 16, 17, 18, 19, 38, 39, 40, 41, 42, 43, 44, 45, 46] rfl (fun _ => rfl) (fun u10 H locs hw hP hS => ?_)
      have hP := (congrArg (fun z => va_P (dC, dI) vwCl z H) (gp_a1 qu qb cI cB u.1 (u.2 0) (u.2 1) (u.2 2) (u.2 3) _ u10.1 u10.2)).mp hP
      have hP : va_P (dC, dI) vwCl (uw qu cI cB (usb u 1 u10.1) ++ bw qb cI u10.2) H := hP
      have hf := lt_eq hw hf
      exact J_19 (usb u 1 u10.1) u10.2 _ _ hP hS _ (lv_sub hl [1] rfl) hf
    · have hf := ie_eq c7 hf
      have hok := ie_ok c7 hok
      by_cases c11 : (u.1 0) = 2
      · have hf := it_eq c11 hf
        have hok := it_ok c11 hok
        refine g_aaldK (D := (dC, dI)) (tys := (tYS cI cB cO cL)) (k := 2) (x := qu 20) hx hb hK hP 1 1 rfl rfl (by rw [c11]; rfl) (by rw [c11]; decide) (by decide) rfl dX10_push_8 ?_
        refine lv_astore_n (lv' := [(2, .ref (qu 20)), (0, .ref (qu 0)), (1, .ref (qb 0))]) hx hb dX10_push_9 rfl hl (by decide) rfl (fun ls hl => ?_)
        refine lv_aload_n hx hb dX10_push_10 rfl (lv_at hl 0 rfl) ?_
        refine lv_ifnull hx hb dX10_push_11 ?_
        refine lv_aload_n hx hb dX10_push_14 rfl (lv_at hl 0 rfl) ?_
        refine lv_aload_n hx hb dX10_push_15 rfl (lv_at hl 2 rfl) ?_
        have h12 : kX2_copyFrom (u.2 2) b := hok
        have hPc := hP.sub (ws' := bw (ush qu 20) cI (u.2 2) ++ bw qb cI b) [20, 21, 22, 23, 24, 25, 26, 27, 28, 38, 39, 40, 41, 42, 43, 44, 45, 46] rfl
        refine gmu_v (va_runV (As := [.ref (qb 0)]) (rest := []) ⟨hx, hb, hml, hown, hts⟩ (mX2_copyFrom l dC dI cI cB cO cL (ush qu 20) qb (u.2 2) b (gD_subT hD [20, 21, 22, 23, 24, 25, 26, 27, 28, 38, 39, 40, 41, 42, 43, 44, 45, 46] rfl rfl) h12) (cwV 1 hts gX10_push_X2_copyFrom rfl rfl rfl (by decide +kernel) ⟨Nat.le_of_ble_eq_true rfl, Nat.le_of_ble_eq_true rfl⟩) ⟨cP_blind, va_recv hK hPc (ci := 1) (q0 := 0) rfl rfl, cP_ok hPc hK hE⟩ rfl rfl hl.1 rfl (lv_room (Nat.le_of_ble_eq_true rfl)) dX10_push_16 ⟨Nat.zero_le _, Nat.zero_le _⟩) hP (gD_va hD rfl) hS [20, 21, 22, 23, 24, 25, 26, 27, 28, 38, 39, 40, 41, 42, 43, 44, 45, 46] rfl (fun _ => rfl) (fun u14 H locs hw hP hS => ?_)
        have hP := (congrArg (fun z => va_P (dC, dI) vwCl z H) (gp_a2 qu qb cI cB u.1 (u.2 0) (u.2 1) (u.2 2) (u.2 3) _ u14.1 u14.2)).mp hP
        have hP : va_P (dC, dI) vwCl (uw qu cI cB (usb u 2 u14.1) ++ bw qb cI u14.2) H := hP
        have hf := lt_eq hw hf
        exact J_19 (usb u 2 u14.1) u14.2 _ _ hP hS _ (lv_sub hl [1] rfl) hf
      · have hf := ie_eq c11 hf
        have hok := ie_ok c11 hok
        obtain ⟨c15, hok⟩ := hok
        refine g_aaldK (D := (dC, dI)) (tys := (tYS cI cB cO cL)) (k := 3) (x := qu 29) hx hb hK hP 1 1 rfl rfl (by rw [c15]; rfl) (by rw [c15]; decide) (by decide) rfl dX10_push_8 ?_
        refine lv_astore_n (lv' := [(2, .ref (qu 29)), (0, .ref (qu 0)), (1, .ref (qb 0))]) hx hb dX10_push_9 rfl hl (by decide) rfl (fun ls hl => ?_)
        refine lv_aload_n hx hb dX10_push_10 rfl (lv_at hl 0 rfl) ?_
        refine lv_ifnull hx hb dX10_push_11 ?_
        refine lv_aload_n hx hb dX10_push_14 rfl (lv_at hl 0 rfl) ?_
        refine lv_aload_n hx hb dX10_push_15 rfl (lv_at hl 2 rfl) ?_
        have h16 : kX2_copyFrom (u.2 3) b := hok
        have hPc := hP.sub (ws' := bw (ush qu 29) cI (u.2 3) ++ bw qb cI b) [29, 30, 31, 32, 33, 34, 35, 36, 37, 38, 39, 40, 41, 42, 43, 44, 45, 46] rfl
        refine gmu_v (va_runV (As := [.ref (qb 0)]) (rest := []) ⟨hx, hb, hml, hown, hts⟩ (mX2_copyFrom l dC dI cI cB cO cL (ush qu 29) qb (u.2 3) b (gD_subT hD [29, 30, 31, 32, 33, 34, 35, 36, 37, 38, 39, 40, 41, 42, 43, 44, 45, 46] rfl rfl) h16) (cwV 1 hts gX10_push_X2_copyFrom rfl rfl rfl (by decide +kernel) ⟨Nat.le_of_ble_eq_true rfl, Nat.le_of_ble_eq_true rfl⟩) ⟨cP_blind, va_recv hK hPc (ci := 1) (q0 := 0) rfl rfl, cP_ok hPc hK hE⟩ rfl rfl hl.1 rfl (lv_room (Nat.le_of_ble_eq_true rfl)) dX10_push_16 ⟨Nat.zero_le _, Nat.zero_le _⟩) hP (gD_va hD rfl) hS [29, 30, 31, 32, 33, 34, 35, 36, 37, 38, 39, 40, 41, 42, 43, 44, 45, 46] rfl (fun _ => rfl) (fun u18 H locs hw hP hS => ?_)
        have hP := (congrArg (fun z => va_P (dC, dI) vwCl z H) (gp_a3 qu qb cI cB u.1 (u.2 0) (u.2 1) (u.2 2) (u.2 3) _ u18.1 u18.2)).mp hP
        have hP : va_P (dC, dI) vwCl (uw qu cI cB (usb u 3 u18.1) ++ bw qb cI u18.2) H := hP
        have hf := lt_eq hw hf
        exact J_19 (usb u 3 u18.1) u18.2 _ _ hP hS _ (lv_sub hl [1] rfl) hf
abbrev rX10_pop : Room := { frames := 3, cells := 0, slots := 0, locals := 82 }
