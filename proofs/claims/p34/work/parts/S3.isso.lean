/-! THE LAW: is it so -/
section SISSO
theorem tp_i {p : Program} {l : Launch} {e : Env} {R : Room} {s : State} {m : MethodId} {args : Array Value} {below : List Frame} {meth : Method} {c : Code} {H : Heap} {locs : List Loc} {cells slots : Nat} {Q : State → Prop} {pc : Nat} {ls : Array Slot} {rest : List Value} {x y : Int32} (h : x = y) (k : W p l e R s m args below meth c H locs cells slots Q (F0 m pc ls (.int y :: rest))) : W p l e R s m args below meth c H locs cells slots Q (F0 m pc ls (.int x :: rest)) := by
  subst h
  exact k
def hvI (m : Nat → Int32) (k : Nat) : Int32 := if m (10 * k + 4) = 1 then 1 else 0
theorem hvI_y {m : Nat → Int32} {k : Nat} (h : m (10 * k + 4) = 1) : hvI m k = 1 := if_pos h
theorem hvI_n {m : Nat → Int32} {k : Nat} (h : ¬ m (10 * k + 4) = 1) : hvI m k = 0 := if_neg h
theorem hvI_0 {m : Nat → Int32} {k : Nat} (h : hvI m k = 0) : ¬ m (10 * k + 4) = 1 := fun h1 => by rw [hvI_y h1] at h; exact absurd h (by decide)
theorem hvI_1 {m : Nat → Int32} {k : Nat} (h : ¬ hvI m k = 0) : m (10 * k + 4) = 1 := Classical.byContradiction fun h1 => h (hvI_n h1)
theorem noteR_y {m : Nat → Int32} {k : Nat} (h : m (10 * k + 4) = 1) : noteR m k = m (10 * k + 5) := if_pos h
theorem noteR_n {m : Nat → Int32} {k : Nat} (h : ¬ m (10 * k + 4) = 1) : noteR m k = -1000000000 := if_neg h
theorem cntS {m : Nat → Int32} {k : Nat} (h : m (10 * k + 4) = 0 ∨ m (10 * k + 4) = 1) : nI (fa_cnt (hasM m) k) + m (10 * k + 4) = nI (fa_cnt (hasM m) (k + 1)) := by
  rcases h with h | h
  · rw [fa_cnt_no (show hasM m k = false from decide_eq_false (by rw [h]; decide)), h]
    exact nI_add _ 0
  · rw [fa_cnt_yes (show hasM m k = true from decide_eq_true h), h]
    exact nI_add _ 1
def dlV (m : Nat → Int32) (k : Nat) : Int32 := if k = 0 then -100000002 else if m (10 * 0 + 4) = 1 ∧ m (10 * k + 4) = 1 then m (10 * 0 + 5) - m (10 * k + 5) else -1000000000
theorem dlV_0 (m : Nat → Int32) {k : Nat} (h : k = 0) : dlV m k = -100000002 := if_pos h
theorem dlV_n {m : Nat → Int32} {k : Nat} (h : ¬ k = 0) (h1 : ¬ m 4 = 1 ∨ ¬ m (10 * k + 4) = 1) : dlV m k = -1000000000 := by
  unfold dlV
  rw [if_neg h, if_neg (fun h2 => h1.elim (fun h3 => h3 h2.1) (fun h3 => h3 h2.2))]
theorem dlV_y {m : Nat → Int32} {k : Nat} (h : ¬ k = 0) (h1 : m 4 = 1) (h2 : m (10 * k + 4) = 1) : dlV m k = m 5 - m (10 * k + 5) := by
  unfold dlV
  rw [if_neg h, if_pos ⟨h1, h2⟩]
theorem nI_z {k : Nat} (h : k < 2 ^ 31) (e : nI k = 0) : k = 0 := (nI_eq h (by decide)).mp (e.trans nI_0.symm)
theorem delay_any {C R M W N : Nat} {b : BS} {g m w : Nat → Int32} (h : DR C R M W N b g m w) (kk : Int32) {k : Nat} (hk : k < M) : ∃ (c : Nat) (r : Int32), pX11_delay b kk 0 (nI k) = (c, (r, (b, kk))) ∧ kX11_delay b kk 0 (nI k) ∧ (c = 0 ∨ c = 1 ∨ c = 2) ∧ rv c r = dlV m k := by
  by_cases h0 : k = 0
  · subst h0
    have h1 := delay_same h kk hk
    exact ⟨2, 0, h1.1, h1.2, Or.inr (Or.inr rfl), rfl⟩
  · have h1 := delay_at h kk (i := 0) (j := k) (by omega) hk (fun e => h0 e.symm)
    refine ⟨0, _, h1.1, h1.2, Or.inl rfl, ?_⟩
    unfold dlV
    rw [if_neg h0]
    rfl
abbrev rL_isSo : Room := { frames := 10, cells := 304, slots := 1824, locals := 205 }
set_option maxHeartbeats 8000000 in
set_option maxRecDepth 100000 in
theorem mL_isSo (l : Launch) (hfl : l.stackTraces = false) (dC : Nat → ClassId) (dI : Nat → Nat → Nat) (cI cB cO cL : ClassId) (N0 : Nat) (sT eA qb qs qu qr qe qk qx qd qg qm qw : Nat → Nat) (b : BS) (s9 : SS) (u : US) (tr te : TS) (g m9 w : Nat → Int32) (kk : Int32) (sz : Nat) (hsz : N0 ≤ sz) (hG0 : gC (fun q => N0 ≤ q) (cpT qb qs qu qr qe qk [qg 0, qm 0, qw 0])) (hR0 : RelT (b, s9, u, tr, te) g m9 w) : Met l yL_isSo wsT_isSo rL_isSo (tP N0 sz sT eA (dC, dI) (tYS cI cB cO cL) (LT (dC, dI) cI cB qb qs qu qr qe qk qx qd qg qm qw kk ((b, s9, u, tr, te), g, m9, w)) [.ref (qk 0), .ref (qg 0), .ref (qm 0), .ref (qw 0)]) (upQ (dC, dI) cI cB qb qs qu qr qe qk qx qd qg qm qw kk (uA (cpT qb qs qu qr qe qk [qg 0, qm 0, qw 0]) sz)) 304 1824 (uA (cpT qb qs qu qr qe qk [qg 0, qm 0, qw 0]) sz) := by
  refine tMet (cc := cL_isSo) (maxL := 10) (ws' := gT) (v0 := ((b, s9, u, tr, te), g, m9, w)) (av := [.ref (qk 0), .ref (qg 0), .ref (qm 0), .ref (qw 0)]) [(0, .ref (qk 0)), (1, .ref (qg 0)), (2, .ref (qm 0)), (3, .ref (qw 0))] hsz hG0 (by decide) rfl rfl rfl ?_
  intro p e s m below meth c A QQ hx hb hml hown hts hK hF hC hN0 hA hN hG hI hW hend ls hl
  have hown : s.vm.findClass RL = some m.cls := hown
  obtain ⟨Cn, Rn, Mn, Wn, Nn, hD, hV, hU⟩ := hR0
  obtain ⟨hlC, hlR, hlM, hlW, hlN⟩ := hD.1.le
  have hI : OI (dC, dI) cI cB qb qs qu qr qe qk qx qd kk (b, s9, u, tr, te) s.heap := hI
  have hW : va_P (dC, dI) vwCl (arW qg qm qw cI g m9 w) s.heap := hW
  have hS : va_S A s.heap s.heap [] := va_S.rf
  have hO4 : ∀ k, k < Mn → m9 (10 * k + 4) = 0 ∨ m9 (10 * k + 4) = 1 := fun k hk => (hD.2 k hk).1.2.1
  have T420 : ∀  (H : Heap) (locs : List Loc) (cells slots : Nat), OI (dC, dI) cI cB qb qs qu qr qe qk qx qd kk (b, s9, u, tr, te) H → va_P (dC, dI) vwCl (arW qg qm qw cI g m9 w) H → va_S A s.heap H locs → ∀ ls : Array Slot, lv_has ls 10 [(5, .int 1), (4, .int (nI (fa_cnt (hasM m9) Mn))), (0, .ref (qk 0)), (1, .ref (qg 0)), (2, .ref (qm 0)), (3, .ref (qw 0))] → cells + (12) ≤ 304 → slots + (72) ≤ 1824 → W p l e rL_isSo s m ([.ref (qk 0), .ref (qg 0), .ref (qm 0), .ref (qw 0)] : List Value).toArray below meth c H locs (cells) (slots) QQ (F0 m 420 ls []) := by
    intro  H locs cells slots  hI hW hS ls hl hcc hss
    refine lv_iload hx hb dL_isSo_420 (lv_at hl 0 rfl) ?_
    refine lv_if_eq (tgt := 471) hx hb dL_isSo_422 (by decide) (fun h => absurd h (by decide)) (fun _ => ?_)
    refine lv_aload_n hx hb dL_isSo_425 rfl (lv_at hl 2 rfl) ?_
    refine lv_bipush (v := 6) hx hb dL_isSo_426 (by decide) ?_
    obtain ⟨s1, hw6, hk6, hV⟩ := whole_6 hD hV kk
    have f1 := And.intro hw6 hk6
    refine w_wholeOf (R := rL_isSo) (cells := cells) (slots := slots) (wo := arW qg qm qw cI g m9 w) hfl hx hb hml hown hts hK hF hC hN hG hA rfl hN0 hS hI hW f1.1 f1.2 (Or.inl rfl) ⟨Nat.le_of_ble_eq_true rfl, Nat.le_of_ble_eq_true rfl⟩ (nI (fa_cnt (hasM m9) Mn)) (rfl) (Nat.le_of_ble_eq_true rfl) hl.1 dL_isSo_428 ⟨(by omega : cells + 4 ≤ 304), (by omega : slots + 24 ≤ 1824)⟩ (fun H locs hI hW hS => ?_)
    refine lv_iload hx hb dL_isSo_431 (lv_at hl 1 rfl) ?_
    refine lv_icmp_ne (tgt := 471) hx hb dL_isSo_433 (by decide) (fun h => absurd rfl h) (fun _ => ?_)
    refine lv_aload_n hx hb dL_isSo_436 rfl (lv_at hl 2 rfl) ?_
    refine lv_bipush (v := 7) hx hb dL_isSo_437 (by decide) ?_
    obtain ⟨s2, hw7, hk7, hV⟩ := whole_7 hD hV kk
    have f2 := And.intro hw7 hk7
    refine w_wholeOf (R := rL_isSo) (cells := cells + 4) (slots := slots + 24) (wo := arW qg qm qw cI g m9 w) hfl hx hb hml hown hts hK hF hC hN hG hA rfl hN0 hS hI hW f2.1 f2.2 (Or.inl rfl) ⟨Nat.le_of_ble_eq_true rfl, Nat.le_of_ble_eq_true rfl⟩ ((nI (fa_cnt (hasM m9) Mn) * (nI (fa_cnt (hasM m9) Mn) - (1 : Int32)) / (2 : Int32))) (rfl) (Nat.le_of_ble_eq_true rfl) hl.1 dL_isSo_439 ⟨(by omega : cells + 4 + 4 ≤ 304), (by omega : slots + 24 + 24 ≤ 1824)⟩ (fun H locs hI hW hS => ?_)
    refine lv_iload hx hb dL_isSo_442 (lv_at hl 1 rfl) ?_
    refine lv_iload hx hb dL_isSo_444 (lv_at hl 1 rfl) ?_
    refine lv_iconst (v := 1) hx hb dL_isSo_446 (by decide) ?_
    refine lv_isub hx hb dL_isSo_447 ?_
    refine lv_imul hx hb dL_isSo_448 ?_
    refine lv_iconst (v := 2) hx hb dL_isSo_449 (by decide) ?_
    refine lv_idiv hx hb dL_isSo_450 (by decide) ?_
    refine lv_icmp_ne (tgt := 471) hx hb dL_isSo_451 (by decide) (fun h => absurd (rfl) h) (fun _ => ?_)
    refine lv_aload_n hx hb dL_isSo_454 rfl (lv_at hl 2 rfl) ?_
    refine lv_bipush (v := 10) hx hb dL_isSo_455 (by decide) ?_
    have f3 := whole_10 hD s2 kk
    refine w_wholeOf (R := rL_isSo) (cells := cells + 8) (slots := slots + 48) (wo := arW qg qm qw cI g m9 w) hfl hx hb hml hown hts hK hF hC hN hG hA rfl hN0 hS hI hW f3.1 f3.2 (Or.inl rfl) ⟨Nat.le_of_ble_eq_true rfl, Nat.le_of_ble_eq_true rfl⟩ ((g 6)) (rfl) (Nat.le_of_ble_eq_true rfl) hl.1 dL_isSo_457 ⟨(by omega : cells + 8 + 4 ≤ 304), (by omega : slots + 48 + 24 ≤ 1824)⟩ (fun H locs hI hW hS => ?_)
    refine lv_aload_n hx hb dL_isSo_460 rfl (lv_at hl 3 rfl) ?_
    refine lv_bipush (v := 6) hx hb dL_isSo_461 (by decide) ?_
    refine g_ialdK (D := (dC, dI)) (tys := tYS cI cB cO cL) (k := 6) hx hb hK hW 0 0 rfl rfl (by decide) (by decide) (by decide) dL_isSo_463 ?_
    refine lv_icmp_ne (tgt := 471) hx hb dL_isSo_464 (by decide) (fun h => absurd rfl h) (fun _ => ?_)
    refine lv_iconst (v := 1) hx hb dL_isSo_467 (by decide) ?_
    refine lv_goto (tgt := 472) hx hb dL_isSo_468 (by decide) ?_
    exact hend 472 _ _ _ _ _ (b, s2, u, tr, te) g m9 w ⟨Cn, Rn, Mn, Wn, Nn, hD, hV, hU⟩ hI hW hS (by omega) (by omega) dL_isSo_472
  have T369 : ∀ (n : Nat) (k : Nat) (H : Heap) (locs : List Loc) (cells slots : Nat), k + n = 4 * Nn → OI (dC, dI) cI cB qb qs qu qr qe qk qx qd kk (b, s9, u, tr, te) H → va_P (dC, dI) vwCl (arW qg qm qw cI g m9 w) H → va_S A s.heap H locs → ∀ ls : Array Slot, lv_has ls 10 [(6, .int (nI k)), (5, .int 1), (4, .int (nI (fa_cnt (hasM m9) Mn))), (0, .ref (qk 0)), (1, .ref (qg 0)), (2, .ref (qm 0)), (3, .ref (qw 0))] → cells + (4 * n + 12) ≤ 304 → slots + (24 * n + 72) ≤ 1824 → W p l e rL_isSo s m ([.ref (qk 0), .ref (qg 0), .ref (qm 0), .ref (qw 0)] : List Value).toArray below meth c H locs (cells) (slots) QQ (F0 m 369 ls []) := by
    intro n
    induction n with
    | zero =>
      intro k H locs cells slots hk hI hW hS ls hl hcc hss
      have hk : k = 4 * Nn := by omega
      refine lv_iload hx hb dL_isSo_369 (lv_at hl 0 rfl) ?_
      refine lv_iconst (v := 4) hx hb dL_isSo_371 (by decide) ?_
      refine lv_aload_n hx hb dL_isSo_372 rfl (lv_at hl 4 rfl) ?_
      refine lv_iconst (v := 4) hx hb dL_isSo_373 (by decide) ?_
      refine g_ialdK (D := (dC, dI)) (tys := tYS cI cB cO cL) (k := 4) hx hb hK hW 0 0 rfl rfl (by decide) (by decide) (by decide) dL_isSo_374 ?_
      refine tp_i (show (g 4) = nI Nn from hD.1.eN) ?_
      refine lv_imul hx hb dL_isSo_375 ?_
      refine tp_i (show ((4 : Int32) * (nI Nn)) = nI (4 * Nn) from pk_mul 4 Nn) ?_
      refine lv_icmp_ge (tgt := 420) hx hb dL_isSo_376 (by decide) (fun _ => ?_) (fun h => absurd (nI_le (a := 4 * Nn) (b := k) (by omega) (by omega)) h)
      exact T420  _ _ _ _  hI hW hS _ (lv_sub hl [1, 2, 3, 4, 5, 6] rfl) (by omega) (by omega)
    | succ n ih =>
      intro k H locs cells slots hk hI hW hS ls hl hcc hss
      refine lv_iload hx hb dL_isSo_369 (lv_at hl 0 rfl) ?_
      refine lv_iconst (v := 4) hx hb dL_isSo_371 (by decide) ?_
      refine lv_aload_n hx hb dL_isSo_372 rfl (lv_at hl 4 rfl) ?_
      refine lv_iconst (v := 4) hx hb dL_isSo_373 (by decide) ?_
      refine g_ialdK (D := (dC, dI)) (tys := tYS cI cB cO cL) (k := 4) hx hb hK hW 0 0 rfl rfl (by decide) (by decide) (by decide) dL_isSo_374 ?_
      refine tp_i (show (g 4) = nI Nn from hD.1.eN) ?_
      refine lv_imul hx hb dL_isSo_375 ?_
      refine tp_i (show ((4 : Int32) * (nI Nn)) = nI (4 * Nn) from pk_mul 4 Nn) ?_
      refine lv_icmp_ge (tgt := 420) hx hb dL_isSo_376 (by decide) (fun h => absurd h (nI_ge (a := k) (b := 4 * Nn) (by omega) (by omega))) (fun _ => ?_)
      refine lv_iload hx hb dL_isSo_379 (lv_at hl 1 rfl) ?_
      refine lv_if_eq (tgt := 411) hx hb dL_isSo_381 (by decide) (fun h => absurd h (by decide)) (fun _ => ?_)
      refine lv_aload_n hx hb dL_isSo_384 rfl (lv_at hl 3 rfl) ?_
      refine lv_iconst (v := 2) hx hb dL_isSo_385 (by decide) ?_
      refine lv_iload hx hb dL_isSo_386 (lv_at hl 0 rfl) ?_
      refine lv_iconst (v := 4) hx hb dL_isSo_388 (by decide) ?_
      refine lv_idiv hx hb dL_isSo_389 (by decide) ?_
      refine tp_i (show ((nI k) / (4 : Int32)) = nI (k / 4) from nx_div (a := k) (d := 4) (by omega) (by omega) (by omega)) ?_
      refine lv_iload hx hb dL_isSo_390 (lv_at hl 0 rfl) ?_
      refine lv_iconst (v := 4) hx hb dL_isSo_392 (by decide) ?_
      refine lv_irem hx hb dL_isSo_393 (by decide) ?_
      refine tp_i (show ((nI k) - (nI k) / (4 : Int32) * (4 : Int32)) = nI (k % 4) from nx_rem (a := k) (d := 4) (by omega) (by omega) (by omega)) ?_
      have f4 := part2 hD kk (i := k / 4) (c := k % 4) (by omega) (by omega)
      refine w_partOf (R := rL_isSo) (cells := cells) (slots := slots) (wo := arW qg qm qw cI g m9 w) hfl hx hb hml hown hts hK hF hC hN hG hA rfl hN0 hS hI hW f4.1 f4.2 (Or.inl rfl) ⟨Nat.le_of_ble_eq_true rfl, Nat.le_of_ble_eq_true rfl⟩ ((w (12 + 4 * (k / 4) + k % 4))) (rfl) (Nat.le_of_ble_eq_true rfl) hl.1 dL_isSo_394 ⟨(by omega : cells + 4 ≤ 304), (by omega : slots + 24 ≤ 1824)⟩ (fun H locs hI hW hS => ?_)
      refine lv_aload_n hx hb dL_isSo_397 rfl (lv_at hl 6 rfl) ?_
      refine lv_bipush (v := 12) hx hb dL_isSo_398 (by decide) ?_
      refine lv_iload hx hb dL_isSo_400 (lv_at hl 0 rfl) ?_
      refine lv_iadd hx hb dL_isSo_402 ?_
      refine tp_i (show ((12 : Int32) + (nI k)) = nI (12 + k) from nI_add 12 k) ?_
      refine g_ialdK (D := (dC, dI)) (tys := tYS cI cB cO cL) (k := 12 + k) hx hb hK hW 2 0 rfl rfl (nI_clamp (by omega)) (nI_pos (by omega)) (by omega) dL_isSo_403 ?_
      refine lv_icmp_ne (tgt := 411) hx hb dL_isSo_404 (by decide) (fun h => absurd (congrArg w (show 12 + 4 * (k / 4) + k % 4 = 12 + k by omega)) h) (fun _ => ?_)
      refine lv_iconst (v := 1) hx hb dL_isSo_407 (by decide) ?_
      refine lv_goto (tgt := 412) hx hb dL_isSo_408 (by decide) ?_
      refine lv_istore (lv' := [(5, .int 1), (6, .int (nI k)), (4, .int (nI (fa_cnt (hasM m9) Mn))), (0, .ref (qk 0)), (1, .ref (qg 0)), (2, .ref (qm 0)), (3, .ref (qw 0))]) hx hb dL_isSo_412 hl (by decide) rfl (fun ls hl => ?_)
      refine lv_iinc (v := (nI (k + 1))) (lv' := [(6, .int (nI (k + 1))), (5, .int 1), (4, .int (nI (fa_cnt (hasM m9) Mn))), (0, .ref (qk 0)), (1, .ref (qg 0)), (2, .ref (qm 0)), (3, .ref (qw 0))]) hx hb dL_isSo_414 hl (k := 1) rfl (nI_add (k) 1) (by decide) rfl (fun ls hl => ?_)
      refine lv_goto (tgt := 369) hx hb dL_isSo_417 (by decide) ?_
      exact ih (k + 1) _ _ _ _ (by omega) hI hW hS _ (lv_sub hl [0, 1, 2, 3, 4, 5, 6] rfl) (by omega) (by omega)
  have T318 : ∀ (n : Nat) (k : Nat) (H : Heap) (locs : List Loc) (cells slots : Nat), k + n = 3 * Wn → OI (dC, dI) cI cB qb qs qu qr qe qk qx qd kk (b, s9, u, tr, te) H → va_P (dC, dI) vwCl (arW qg qm qw cI g m9 w) H → va_S A s.heap H locs → ∀ ls : Array Slot, lv_has ls 10 [(6, .int (nI k)), (5, .int 1), (4, .int (nI (fa_cnt (hasM m9) Mn))), (0, .ref (qk 0)), (1, .ref (qg 0)), (2, .ref (qm 0)), (3, .ref (qw 0))] → cells + (4 * n + 60) ≤ 304 → slots + (24 * n + 360) ≤ 1824 → W p l e rL_isSo s m ([.ref (qk 0), .ref (qg 0), .ref (qm 0), .ref (qw 0)] : List Value).toArray below meth c H locs (cells) (slots) QQ (F0 m 318 ls []) := by
    intro n
    induction n with
    | zero =>
      intro k H locs cells slots hk hI hW hS ls hl hcc hss
      have hk : k = 3 * Wn := by omega
      refine lv_iload hx hb dL_isSo_318 (lv_at hl 0 rfl) ?_
      refine lv_iconst (v := 3) hx hb dL_isSo_320 (by decide) ?_
      refine lv_aload_n hx hb dL_isSo_321 rfl (lv_at hl 4 rfl) ?_
      refine lv_iconst (v := 3) hx hb dL_isSo_322 (by decide) ?_
      refine g_ialdK (D := (dC, dI)) (tys := tYS cI cB cO cL) (k := 3) hx hb hK hW 0 0 rfl rfl (by decide) (by decide) (by decide) dL_isSo_323 ?_
      refine tp_i (show (g 3) = nI Wn from hD.1.eW) ?_
      refine lv_imul hx hb dL_isSo_324 ?_
      refine tp_i (show ((3 : Int32) * (nI Wn)) = nI (3 * Wn) from pk_mul 3 Wn) ?_
      refine lv_icmp_ge (tgt := 366) hx hb dL_isSo_325 (by decide) (fun _ => ?_) (fun h => absurd (nI_le (a := 3 * Wn) (b := k) (by omega) (by omega)) h)
      refine lv_iconst (v := 0) hx hb dL_isSo_366 (by decide) ?_
      refine lv_istore (lv' := [(6, .int 0), (5, .int 1), (4, .int (nI (fa_cnt (hasM m9) Mn))), (0, .ref (qk 0)), (1, .ref (qg 0)), (2, .ref (qm 0)), (3, .ref (qw 0))]) hx hb dL_isSo_367 hl (by decide) rfl (fun ls hl => ?_)
      exact T369 (4 * Nn) 0 _ _ _ _ (by omega) hI hW hS _ (lv_sub hl [0, 1, 2, 3, 4, 5, 6] rfl) (by omega) (by omega)
    | succ n ih =>
      intro k H locs cells slots hk hI hW hS ls hl hcc hss
      refine lv_iload hx hb dL_isSo_318 (lv_at hl 0 rfl) ?_
      refine lv_iconst (v := 3) hx hb dL_isSo_320 (by decide) ?_
      refine lv_aload_n hx hb dL_isSo_321 rfl (lv_at hl 4 rfl) ?_
      refine lv_iconst (v := 3) hx hb dL_isSo_322 (by decide) ?_
      refine g_ialdK (D := (dC, dI)) (tys := tYS cI cB cO cL) (k := 3) hx hb hK hW 0 0 rfl rfl (by decide) (by decide) (by decide) dL_isSo_323 ?_
      refine tp_i (show (g 3) = nI Wn from hD.1.eW) ?_
      refine lv_imul hx hb dL_isSo_324 ?_
      refine tp_i (show ((3 : Int32) * (nI Wn)) = nI (3 * Wn) from pk_mul 3 Wn) ?_
      refine lv_icmp_ge (tgt := 366) hx hb dL_isSo_325 (by decide) (fun h => absurd h (nI_ge (a := k) (b := 3 * Wn) (by omega) (by omega))) (fun _ => ?_)
      refine lv_iload hx hb dL_isSo_328 (lv_at hl 1 rfl) ?_
      refine lv_if_eq (tgt := 357) hx hb dL_isSo_330 (by decide) (fun h => absurd h (by decide)) (fun _ => ?_)
      refine lv_aload_n hx hb dL_isSo_333 rfl (lv_at hl 3 rfl) ?_
      refine lv_iconst (v := 1) hx hb dL_isSo_334 (by decide) ?_
      refine lv_iload hx hb dL_isSo_335 (lv_at hl 0 rfl) ?_
      refine lv_iconst (v := 3) hx hb dL_isSo_337 (by decide) ?_
      refine lv_idiv hx hb dL_isSo_338 (by decide) ?_
      refine tp_i (show ((nI k) / (3 : Int32)) = nI (k / 3) from nx_div (a := k) (d := 3) (by omega) (by omega) (by omega)) ?_
      refine lv_iload hx hb dL_isSo_339 (lv_at hl 0 rfl) ?_
      refine lv_iconst (v := 3) hx hb dL_isSo_341 (by decide) ?_
      refine lv_irem hx hb dL_isSo_342 (by decide) ?_
      refine tp_i (show ((nI k) - (nI k) / (3 : Int32) * (3 : Int32)) = nI (k % 3) from nx_rem (a := k) (d := 3) (by omega) (by omega) (by omega)) ?_
      have f5 := part1 hD kk (i := k / 3) (c := k % 3) (by omega) (by omega)
      refine w_partOf (R := rL_isSo) (cells := cells) (slots := slots) (wo := arW qg qm qw cI g m9 w) hfl hx hb hml hown hts hK hF hC hN hG hA rfl hN0 hS hI hW f5.1 f5.2 (Or.inl rfl) ⟨Nat.le_of_ble_eq_true rfl, Nat.le_of_ble_eq_true rfl⟩ ((w (3 * (k / 3) + k % 3))) (rfl) (Nat.le_of_ble_eq_true rfl) hl.1 dL_isSo_343 ⟨(by omega : cells + 4 ≤ 304), (by omega : slots + 24 ≤ 1824)⟩ (fun H locs hI hW hS => ?_)
      refine lv_aload_n hx hb dL_isSo_346 rfl (lv_at hl 6 rfl) ?_
      refine lv_iload hx hb dL_isSo_347 (lv_at hl 0 rfl) ?_
      refine g_ialdK (D := (dC, dI)) (tys := tYS cI cB cO cL) (k := k) hx hb hK hW 2 0 rfl rfl (nI_clamp (by omega)) (nI_pos (by omega)) (by omega) dL_isSo_349 ?_
      refine lv_icmp_ne (tgt := 357) hx hb dL_isSo_350 (by decide) (fun h => absurd (congrArg w (show 3 * (k / 3) + k % 3 = k by omega)) h) (fun _ => ?_)
      refine lv_iconst (v := 1) hx hb dL_isSo_353 (by decide) ?_
      refine lv_goto (tgt := 358) hx hb dL_isSo_354 (by decide) ?_
      refine lv_istore (lv' := [(5, .int 1), (6, .int (nI k)), (4, .int (nI (fa_cnt (hasM m9) Mn))), (0, .ref (qk 0)), (1, .ref (qg 0)), (2, .ref (qm 0)), (3, .ref (qw 0))]) hx hb dL_isSo_358 hl (by decide) rfl (fun ls hl => ?_)
      refine lv_iinc (v := (nI (k + 1))) (lv' := [(6, .int (nI (k + 1))), (5, .int 1), (4, .int (nI (fa_cnt (hasM m9) Mn))), (0, .ref (qk 0)), (1, .ref (qg 0)), (2, .ref (qm 0)), (3, .ref (qw 0))]) hx hb dL_isSo_360 hl (k := 1) rfl (nI_add (k) 1) (by decide) rfl (fun ls hl => ?_)
      refine lv_goto (tgt := 318) hx hb dL_isSo_363 (by decide) ?_
      exact ih (k + 1) _ _ _ _ (by omega) hI hW hS _ (lv_sub hl [0, 1, 2, 3, 4, 5, 6] rfl) (by omega) (by omega)
  have T68 : ∀ (n : Nat) (k : Nat) (H : Heap) (locs : List Loc) (cells slots : Nat), k + n = Mn → OI (dC, dI) cI cB qb qs qu qr qe qk qx qd kk (b, s9, u, tr, te) H → va_P (dC, dI) vwCl (arW qg qm qw cI g m9 w) H → va_S A s.heap H locs → ∀ ls : Array Slot, lv_has ls 10 [(6, .int (nI k)), (5, .int 1), (4, .int (nI (fa_cnt (hasM m9) k))), (0, .ref (qk 0)), (1, .ref (qg 0)), (2, .ref (qm 0)), (3, .ref (qw 0))] → cells + (40 * n + 96) ≤ 304 → slots + (240 * n + 576) ≤ 1824 → W p l e rL_isSo s m ([.ref (qk 0), .ref (qg 0), .ref (qm 0), .ref (qw 0)] : List Value).toArray below meth c H locs (cells) (slots) QQ (F0 m 68 ls []) := by
    intro n
    induction n with
    | zero =>
      intro k H locs cells slots hk hI hW hS ls hl hcc hss
      have hk : Mn = k := by omega
      subst hk
      refine lv_iload hx hb dL_isSo_68 (lv_at hl 0 rfl) ?_
      refine lv_aload_n hx hb dL_isSo_70 rfl (lv_at hl 4 rfl) ?_
      refine lv_iconst (v := 2) hx hb dL_isSo_71 (by decide) ?_
      refine g_ialdK (D := (dC, dI)) (tys := tYS cI cB cO cL) (k := 2) hx hb hK hW 0 0 rfl rfl (by decide) (by decide) (by decide) dL_isSo_72 ?_
      refine tp_i (show (g 2) = nI Mn from hD.1.eM) ?_
      refine lv_icmp_ge (tgt := 315) hx hb dL_isSo_73 (by decide) (fun _ => ?_) (fun h => absurd (nI_le (a := Mn) (b := Mn) (by omega) (by omega)) h)
      refine lv_iconst (v := 0) hx hb dL_isSo_315 (by decide) ?_
      refine lv_istore (lv' := [(6, .int 0), (5, .int 1), (4, .int (nI (fa_cnt (hasM m9) Mn))), (0, .ref (qk 0)), (1, .ref (qg 0)), (2, .ref (qm 0)), (3, .ref (qw 0))]) hx hb dL_isSo_316 hl (by decide) rfl (fun ls hl => ?_)
      exact T318 (3 * Wn) 0 _ _ _ _ (by omega) hI hW hS _ (lv_sub hl [0, 1, 2, 3, 4, 5, 6] rfl) (by omega) (by omega)
    | succ n ih =>
      intro k H locs cells slots hk hI hW hS ls hl hcc hss
      have hkM : k < Mn := by omega
      refine lv_iload hx hb dL_isSo_68 (lv_at hl 0 rfl) ?_
      refine lv_aload_n hx hb dL_isSo_70 rfl (lv_at hl 4 rfl) ?_
      refine lv_iconst (v := 2) hx hb dL_isSo_71 (by decide) ?_
      refine g_ialdK (D := (dC, dI)) (tys := tYS cI cB cO cL) (k := 2) hx hb hK hW 0 0 rfl rfl (by decide) (by decide) (by decide) dL_isSo_72 ?_
      refine tp_i (show (g 2) = nI Mn from hD.1.eM) ?_
      refine lv_icmp_ge (tgt := 315) hx hb dL_isSo_73 (by decide) (fun h => absurd h (nI_ge (a := k) (b := Mn) (by omega) (by omega))) (fun _ => ?_)
      refine lv_iload hx hb dL_isSo_76 (lv_at hl 1 rfl) ?_
      refine lv_if_eq (tgt := 315) hx hb dL_isSo_78 (by decide) (fun h => absurd h (by decide)) (fun _ => ?_)
      refine lv_bipush (v := 10) hx hb dL_isSo_81 (by decide) ?_
      refine lv_iload hx hb dL_isSo_83 (lv_at hl 0 rfl) ?_
      refine lv_imul hx hb dL_isSo_85 ?_
      refine tp_i (show ((10 : Int32) * (nI k)) = nI (10 * k) from pk_mul 10 k) ?_
      refine lv_istore (lv' := [(7, .int (nI (10 * k))), (6, .int (nI k)), (5, .int 1), (4, .int (nI (fa_cnt (hasM m9) k))), (0, .ref (qk 0)), (1, .ref (qg 0)), (2, .ref (qm 0)), (3, .ref (qw 0))]) hx hb dL_isSo_86 hl (by decide) rfl (fun ls hl => ?_)
      refine lv_aload_n hx hb dL_isSo_88 rfl (lv_at hl 6 rfl) ?_
      refine lv_iload hx hb dL_isSo_89 (lv_at hl 0 rfl) ?_
      refine lv_iconst (v := 4) hx hb dL_isSo_91 (by decide) ?_
      refine lv_iadd hx hb dL_isSo_92 ?_
      refine tp_i (show ((nI (10 * k)) + (4 : Int32)) = nI (10 * k + 4) from nI_add (10 * k) 4) ?_
      refine g_ialdK (D := (dC, dI)) (tys := tYS cI cB cO cL) (k := 10 * k + 4) hx hb hK hW 1 0 rfl rfl (nI_clamp (by omega)) (nI_pos (by omega)) (by omega) dL_isSo_93 ?_
      have J105 : ∀ ls : Array Slot, lv_has ls 10 [(8, .int (hvI m9 k)), (7, .int (nI (10 * k))), (6, .int (nI k)), (5, .int 1), (4, .int (nI (fa_cnt (hasM m9) k))), (0, .ref (qk 0)), (1, .ref (qg 0)), (2, .ref (qm 0)), (3, .ref (qw 0))] → W p l e rL_isSo s m ([.ref (qk 0), .ref (qg 0), .ref (qm 0), .ref (qw 0)] : List Value).toArray below meth c H locs (cells) (slots) QQ (F0 m 105 ls []) := by
        intro ls hl
        refine lv_iload hx hb dL_isSo_105 (lv_at hl 4 rfl) ?_
        refine lv_aload_n hx hb dL_isSo_107 rfl (lv_at hl 7 rfl) ?_
        refine lv_iload hx hb dL_isSo_108 (lv_at hl 1 rfl) ?_
        refine lv_iconst (v := 4) hx hb dL_isSo_110 (by decide) ?_
        refine lv_iadd hx hb dL_isSo_111 ?_
        refine tp_i (show ((nI (10 * k)) + (4 : Int32)) = nI (10 * k + 4) from nI_add (10 * k) 4) ?_
        refine g_ialdK (D := (dC, dI)) (tys := tYS cI cB cO cL) (k := 10 * k + 4) hx hb hK hW 1 0 rfl rfl (nI_clamp (by omega)) (nI_pos (by omega)) (by omega) dL_isSo_112 ?_
        refine lv_iadd hx hb dL_isSo_113 ?_
        refine tp_i (show ((nI (fa_cnt (hasM m9) k)) + (m9 (10 * k + 4))) = nI (fa_cnt (hasM m9) (k + 1)) from cntS (hO4 k hkM)) ?_
        refine lv_istore (lv' := [(4, .int (nI (fa_cnt (hasM m9) (k + 1)))), (8, .int (hvI m9 k)), (7, .int (nI (10 * k))), (6, .int (nI k)), (5, .int 1), (0, .ref (qk 0)), (1, .ref (qg 0)), (2, .ref (qm 0)), (3, .ref (qw 0))]) hx hb dL_isSo_114 hl (by decide) rfl (fun ls hl => ?_)
        refine lv_aload_n hx hb dL_isSo_116 rfl (lv_at hl 5 rfl) ?_
        refine lv_iconst (v := 0) hx hb dL_isSo_117 (by decide) ?_
        refine lv_iload hx hb dL_isSo_118 (lv_at hl 3 rfl) ?_
        refine lv_iconst (v := 0) hx hb dL_isSo_120 (by decide) ?_
        have f6 := part0 hD kk (i := k) (c := 0) hkM (by omega)
        refine w_partOf (R := rL_isSo) (cells := cells) (slots := slots) (wo := arW qg qm qw cI g m9 w) hfl hx hb hml hown hts hK hF hC hN hG hA rfl hN0 hS hI hW f6.1 f6.2 (Or.inl rfl) ⟨Nat.le_of_ble_eq_true rfl, Nat.le_of_ble_eq_true rfl⟩ ((m9 (10 * k + 0))) (rfl) (Nat.le_of_ble_eq_true rfl) hl.1 dL_isSo_121 ⟨(by omega : cells + 4 ≤ 304), (by omega : slots + 24 ≤ 1824)⟩ (fun H locs hI hW hS => ?_)
        refine lv_aload_n hx hb dL_isSo_124 rfl (lv_at hl 7 rfl) ?_
        refine lv_iload hx hb dL_isSo_125 (lv_at hl 2 rfl) ?_
        refine g_ialdK (D := (dC, dI)) (tys := tYS cI cB cO cL) (k := 10 * k) hx hb hK hW 1 0 rfl rfl (nI_clamp (by omega)) (nI_pos (by omega)) (by omega) dL_isSo_127 ?_
        refine lv_icmp_ne (tgt := 258) hx hb dL_isSo_128 (by decide) (fun h => absurd (rfl) h) (fun _ => ?_)
        refine lv_aload_n hx hb dL_isSo_131 rfl (lv_at hl 5 rfl) ?_
        refine lv_iconst (v := 0) hx hb dL_isSo_132 (by decide) ?_
        refine lv_iload hx hb dL_isSo_133 (lv_at hl 3 rfl) ?_
        refine lv_iconst (v := 1) hx hb dL_isSo_135 (by decide) ?_
        have f7 := part0 hD kk (i := k) (c := 1) hkM (by omega)
        refine w_partOf (R := rL_isSo) (cells := cells + 4) (slots := slots + 24) (wo := arW qg qm qw cI g m9 w) hfl hx hb hml hown hts hK hF hC hN hG hA rfl hN0 hS hI hW f7.1 f7.2 (Or.inl rfl) ⟨Nat.le_of_ble_eq_true rfl, Nat.le_of_ble_eq_true rfl⟩ ((m9 (10 * k + 1))) (rfl) (Nat.le_of_ble_eq_true rfl) hl.1 dL_isSo_136 ⟨(by omega : cells + 4 + 4 ≤ 304), (by omega : slots + 24 + 24 ≤ 1824)⟩ (fun H locs hI hW hS => ?_)
        refine lv_aload_n hx hb dL_isSo_139 rfl (lv_at hl 7 rfl) ?_
        refine lv_iload hx hb dL_isSo_140 (lv_at hl 2 rfl) ?_
        refine lv_iconst (v := 1) hx hb dL_isSo_142 (by decide) ?_
        refine lv_iadd hx hb dL_isSo_143 ?_
        refine tp_i (show ((nI (10 * k)) + (1 : Int32)) = nI (10 * k + 1) from nI_add (10 * k) 1) ?_
        refine g_ialdK (D := (dC, dI)) (tys := tYS cI cB cO cL) (k := 10 * k + 1) hx hb hK hW 1 0 rfl rfl (nI_clamp (by omega)) (nI_pos (by omega)) (by omega) dL_isSo_144 ?_
        refine lv_icmp_ne (tgt := 258) hx hb dL_isSo_145 (by decide) (fun h => absurd (rfl) h) (fun _ => ?_)
        refine lv_aload_n hx hb dL_isSo_148 rfl (lv_at hl 5 rfl) ?_
        refine lv_iconst (v := 0) hx hb dL_isSo_149 (by decide) ?_
        refine lv_iload hx hb dL_isSo_150 (lv_at hl 3 rfl) ?_
        refine lv_iconst (v := 2) hx hb dL_isSo_152 (by decide) ?_
        have f8 := part0 hD kk (i := k) (c := 2) hkM (by omega)
        refine w_partOf (R := rL_isSo) (cells := cells + 8) (slots := slots + 48) (wo := arW qg qm qw cI g m9 w) hfl hx hb hml hown hts hK hF hC hN hG hA rfl hN0 hS hI hW f8.1 f8.2 (Or.inl rfl) ⟨Nat.le_of_ble_eq_true rfl, Nat.le_of_ble_eq_true rfl⟩ ((m9 (10 * k + 2))) (rfl) (Nat.le_of_ble_eq_true rfl) hl.1 dL_isSo_153 ⟨(by omega : cells + 8 + 4 ≤ 304), (by omega : slots + 48 + 24 ≤ 1824)⟩ (fun H locs hI hW hS => ?_)
        refine lv_aload_n hx hb dL_isSo_156 rfl (lv_at hl 7 rfl) ?_
        refine lv_iload hx hb dL_isSo_157 (lv_at hl 2 rfl) ?_
        refine lv_iconst (v := 2) hx hb dL_isSo_159 (by decide) ?_
        refine lv_iadd hx hb dL_isSo_160 ?_
        refine tp_i (show ((nI (10 * k)) + (2 : Int32)) = nI (10 * k + 2) from nI_add (10 * k) 2) ?_
        refine g_ialdK (D := (dC, dI)) (tys := tYS cI cB cO cL) (k := 10 * k + 2) hx hb hK hW 1 0 rfl rfl (nI_clamp (by omega)) (nI_pos (by omega)) (by omega) dL_isSo_161 ?_
        refine lv_icmp_ne (tgt := 258) hx hb dL_isSo_162 (by decide) (fun h => absurd (rfl) h) (fun _ => ?_)
        refine lv_aload_n hx hb dL_isSo_165 rfl (lv_at hl 5 rfl) ?_
        refine lv_iconst (v := 0) hx hb dL_isSo_166 (by decide) ?_
        refine lv_iload hx hb dL_isSo_167 (lv_at hl 3 rfl) ?_
        refine lv_iconst (v := 3) hx hb dL_isSo_169 (by decide) ?_
        have f9 := part0 hD kk (i := k) (c := 3) hkM (by omega)
        refine w_partOf (R := rL_isSo) (cells := cells + 12) (slots := slots + 72) (wo := arW qg qm qw cI g m9 w) hfl hx hb hml hown hts hK hF hC hN hG hA rfl hN0 hS hI hW f9.1 f9.2 (Or.inl rfl) ⟨Nat.le_of_ble_eq_true rfl, Nat.le_of_ble_eq_true rfl⟩ ((m9 (10 * k + 3))) (rfl) (Nat.le_of_ble_eq_true rfl) hl.1 dL_isSo_170 ⟨(by omega : cells + 12 + 4 ≤ 304), (by omega : slots + 72 + 24 ≤ 1824)⟩ (fun H locs hI hW hS => ?_)
        refine lv_aload_n hx hb dL_isSo_173 rfl (lv_at hl 7 rfl) ?_
        refine lv_iload hx hb dL_isSo_174 (lv_at hl 2 rfl) ?_
        refine lv_iconst (v := 3) hx hb dL_isSo_176 (by decide) ?_
        refine lv_iadd hx hb dL_isSo_177 ?_
        refine tp_i (show ((nI (10 * k)) + (3 : Int32)) = nI (10 * k + 3) from nI_add (10 * k) 3) ?_
        refine g_ialdK (D := (dC, dI)) (tys := tYS cI cB cO cL) (k := 10 * k + 3) hx hb hK hW 1 0 rfl rfl (nI_clamp (by omega)) (nI_pos (by omega)) (by omega) dL_isSo_178 ?_
        refine lv_icmp_ne (tgt := 258) hx hb dL_isSo_179 (by decide) (fun h => absurd (rfl) h) (fun _ => ?_)
        refine lv_aload_n hx hb dL_isSo_182 rfl (lv_at hl 5 rfl) ?_
        refine lv_iload hx hb dL_isSo_183 (lv_at hl 3 rfl) ?_
        have f10 := note_at hD kk (i := k) hkM
        refine w_noteOf (R := rL_isSo) (cells := cells + 16) (slots := slots + 96) (wo := arW qg qm qw cI g m9 w) hfl hx hb hml hown hts hK hF hC hN hG hA rfl hN0 hS hI hW f10.1 f10.2 (Or.inl rfl) ⟨Nat.le_of_ble_eq_true rfl, Nat.le_of_ble_eq_true rfl⟩ ((noteR m9 k)) (rfl) (Nat.le_of_ble_eq_true rfl) hl.1 dL_isSo_185 ⟨(by omega : cells + 16 + 4 ≤ 304), (by omega : slots + 96 + 24 ≤ 1824)⟩ (fun H locs hI hW hS => ?_)
        have J204 : ∀ ls : Array Slot, lv_has ls 10 [(4, .int (nI (fa_cnt (hasM m9) (k + 1)))), (8, .int (hvI m9 k)), (7, .int (nI (10 * k))), (6, .int (nI k)), (5, .int 1), (0, .ref (qk 0)), (1, .ref (qg 0)), (2, .ref (qm 0)), (3, .ref (qw 0))] → W p l e rL_isSo s m ([.ref (qk 0), .ref (qg 0), .ref (qm 0), .ref (qw 0)] : List Value).toArray below meth c H locs (cells + 20) (slots + 120) QQ (F0 m 204 ls [.int (noteR m9 k), .int (noteR m9 k)]) := by
          intro ls hl
          refine lv_icmp_ne (tgt := 258) hx hb dL_isSo_204 (by decide) (fun h => absurd (rfl) h) (fun _ => ?_)
          refine lv_aload_n hx hb dL_isSo_207 rfl (lv_at hl 5 rfl) ?_
          refine lv_iconst (v := 0) hx hb dL_isSo_208 (by decide) ?_
          refine lv_iload hx hb dL_isSo_209 (lv_at hl 3 rfl) ?_
          obtain ⟨c8, r8, hf8, hk8, hc8, hv8⟩ := delay_any hD kk (k := k) hkM
          have f11 := And.intro hf8 hk8
          refine w_delayOf (R := rL_isSo) (cells := cells + 20) (slots := slots + 120) (wo := arW qg qm qw cI g m9 w) hfl hx hb hml hown hts hK hF hC hN hG hA rfl hN0 hS hI hW f11.1 f11.2 (hc8) ⟨Nat.le_of_ble_eq_true rfl, Nat.le_of_ble_eq_true rfl⟩ ((dlV m9 k)) (hv8) (Nat.le_of_ble_eq_true rfl) hl.1 dL_isSo_211 ⟨(by omega : cells + 20 + 4 ≤ 304), (by omega : slots + 120 + 24 ≤ 1824)⟩ (fun H locs hI hW hS => ?_)
          have J251 : ∀ ls : Array Slot, lv_has ls 10 [(4, .int (nI (fa_cnt (hasM m9) (k + 1)))), (8, .int (hvI m9 k)), (7, .int (nI (10 * k))), (6, .int (nI k)), (5, .int 1), (0, .ref (qk 0)), (1, .ref (qg 0)), (2, .ref (qm 0)), (3, .ref (qw 0))] → W p l e rL_isSo s m ([.ref (qk 0), .ref (qg 0), .ref (qm 0), .ref (qw 0)] : List Value).toArray below meth c H locs (cells + 24) (slots + 144) QQ (F0 m 251 ls [.int (dlV m9 k), .int (dlV m9 k)]) := by
            intro ls hl
            refine lv_icmp_ne (tgt := 258) hx hb dL_isSo_251 (by decide) (fun h => absurd (rfl) h) (fun _ => ?_)
            refine lv_iconst (v := 1) hx hb dL_isSo_254 (by decide) ?_
            refine lv_goto (tgt := 259) hx hb dL_isSo_255 (by decide) ?_
            refine lv_istore (lv' := [(5, .int 1), (4, .int (nI (fa_cnt (hasM m9) (k + 1)))), (8, .int (hvI m9 k)), (7, .int (nI (10 * k))), (6, .int (nI k)), (0, .ref (qk 0)), (1, .ref (qg 0)), (2, .ref (qm 0)), (3, .ref (qw 0))]) hx hb dL_isSo_259 hl (by decide) rfl (fun ls hl => ?_)
            refine lv_iconst (v := 0) hx hb dL_isSo_261 (by decide) ?_
            refine lv_istore (lv' := [(9, .int 0), (5, .int 1), (4, .int (nI (fa_cnt (hasM m9) (k + 1)))), (8, .int (hvI m9 k)), (7, .int (nI (10 * k))), (6, .int (nI k)), (0, .ref (qk 0)), (1, .ref (qg 0)), (2, .ref (qm 0)), (3, .ref (qw 0))]) hx hb dL_isSo_262 hl (by decide) rfl (fun ls hl => ?_)
            refine lv_iload hx hb dL_isSo_264 (lv_at hl 0 rfl) ?_
            refine lv_iconst (v := 4) hx hb dL_isSo_266 (by decide) ?_
            refine lv_icmp_ge (tgt := 309) hx hb dL_isSo_267 (by decide) (fun h => absurd h (by decide)) (fun _ => ?_)
            refine lv_iload hx hb dL_isSo_270 (lv_at hl 1 rfl) ?_
            refine lv_if_eq (tgt := 300) hx hb dL_isSo_272 (by decide) (fun h => absurd h (by decide)) (fun _ => ?_)
            refine lv_aload_n hx hb dL_isSo_275 rfl (lv_at hl 6 rfl) ?_
            refine lv_iload hx hb dL_isSo_276 (lv_at hl 5 rfl) ?_
            refine lv_iload hx hb dL_isSo_278 (lv_at hl 0 rfl) ?_
            have f12 := heard_at hD kk (i := k) (c := 0) hkM (by omega)
            refine w_heardOf (R := rL_isSo) (cells := cells + 24) (slots := slots + 144) (wo := arW qg qm qw cI g m9 w) hfl hx hb hml hown hts hK hF hC hN hG hA rfl hN0 hS hI hW f12.1 f12.2 (Or.inl rfl) ⟨Nat.le_of_ble_eq_true rfl, Nat.le_of_ble_eq_true rfl⟩ ((m9 (10 * k + (6 + 0)))) (rfl) (Nat.le_of_ble_eq_true rfl) hl.1 dL_isSo_280 ⟨(by omega : cells + 24 + 4 ≤ 304), (by omega : slots + 144 + 24 ≤ 1824)⟩ (fun H locs hI hW hS => ?_)
            refine lv_aload_n hx hb dL_isSo_283 rfl (lv_at hl 8 rfl) ?_
            refine lv_iload hx hb dL_isSo_284 (lv_at hl 4 rfl) ?_
            refine lv_bipush (v := 6) hx hb dL_isSo_286 (by decide) ?_
            refine lv_iadd hx hb dL_isSo_288 ?_
            refine tp_i (show ((nI (10 * k)) + (6 : Int32)) = nI (10 * k + 6) from nI_add (10 * k) 6) ?_
            refine lv_iload hx hb dL_isSo_289 (lv_at hl 0 rfl) ?_
            refine lv_iadd hx hb dL_isSo_291 ?_
            refine tp_i (show ((nI (10 * k + 6)) + (0 : Int32)) = nI (10 * k + 6) from nI_add (10 * k + 6) 0) ?_
            refine g_ialdK (D := (dC, dI)) (tys := tYS cI cB cO cL) (k := 10 * k + 6) hx hb hK hW 1 0 rfl rfl (nI_clamp (by omega)) (nI_pos (by omega)) (by omega) dL_isSo_292 ?_
            refine lv_icmp_ne (tgt := 300) hx hb dL_isSo_293 (by decide) (fun h => absurd (rfl) h) (fun _ => ?_)
            refine lv_iconst (v := 1) hx hb dL_isSo_296 (by decide) ?_
            refine lv_goto (tgt := 301) hx hb dL_isSo_297 (by decide) ?_
            refine lv_istore (lv' := [(5, .int 1), (9, .int 0), (4, .int (nI (fa_cnt (hasM m9) (k + 1)))), (8, .int (hvI m9 k)), (7, .int (nI (10 * k))), (6, .int (nI k)), (0, .ref (qk 0)), (1, .ref (qg 0)), (2, .ref (qm 0)), (3, .ref (qw 0))]) hx hb dL_isSo_301 hl (by decide) rfl (fun ls hl => ?_)
            refine lv_iinc (v := 1) (lv' := [(9, .int 1), (5, .int 1), (4, .int (nI (fa_cnt (hasM m9) (k + 1)))), (8, .int (hvI m9 k)), (7, .int (nI (10 * k))), (6, .int (nI k)), (0, .ref (qk 0)), (1, .ref (qg 0)), (2, .ref (qm 0)), (3, .ref (qw 0))]) hx hb dL_isSo_303 hl (k := 1) rfl (by decide) (by decide) rfl (fun ls hl => ?_)
            refine lv_goto (tgt := 264) hx hb dL_isSo_306 (by decide) ?_
            refine lv_iload hx hb dL_isSo_264 (lv_at hl 0 rfl) ?_
            refine lv_iconst (v := 4) hx hb dL_isSo_266 (by decide) ?_
            refine lv_icmp_ge (tgt := 309) hx hb dL_isSo_267 (by decide) (fun h => absurd h (by decide)) (fun _ => ?_)
            refine lv_iload hx hb dL_isSo_270 (lv_at hl 1 rfl) ?_
            refine lv_if_eq (tgt := 300) hx hb dL_isSo_272 (by decide) (fun h => absurd h (by decide)) (fun _ => ?_)
            refine lv_aload_n hx hb dL_isSo_275 rfl (lv_at hl 6 rfl) ?_
            refine lv_iload hx hb dL_isSo_276 (lv_at hl 5 rfl) ?_
            refine lv_iload hx hb dL_isSo_278 (lv_at hl 0 rfl) ?_
            have f13 := heard_at hD kk (i := k) (c := 1) hkM (by omega)
            refine w_heardOf (R := rL_isSo) (cells := cells + 28) (slots := slots + 168) (wo := arW qg qm qw cI g m9 w) hfl hx hb hml hown hts hK hF hC hN hG hA rfl hN0 hS hI hW f13.1 f13.2 (Or.inl rfl) ⟨Nat.le_of_ble_eq_true rfl, Nat.le_of_ble_eq_true rfl⟩ ((m9 (10 * k + (6 + 1)))) (rfl) (Nat.le_of_ble_eq_true rfl) hl.1 dL_isSo_280 ⟨(by omega : cells + 28 + 4 ≤ 304), (by omega : slots + 168 + 24 ≤ 1824)⟩ (fun H locs hI hW hS => ?_)
            refine lv_aload_n hx hb dL_isSo_283 rfl (lv_at hl 8 rfl) ?_
            refine lv_iload hx hb dL_isSo_284 (lv_at hl 4 rfl) ?_
            refine lv_bipush (v := 6) hx hb dL_isSo_286 (by decide) ?_
            refine lv_iadd hx hb dL_isSo_288 ?_
            refine tp_i (show ((nI (10 * k)) + (6 : Int32)) = nI (10 * k + 6) from nI_add (10 * k) 6) ?_
            refine lv_iload hx hb dL_isSo_289 (lv_at hl 0 rfl) ?_
            refine lv_iadd hx hb dL_isSo_291 ?_
            refine tp_i (show ((nI (10 * k + 6)) + (1 : Int32)) = nI (10 * k + 6 + 1) from nI_add (10 * k + 6) 1) ?_
            refine g_ialdK (D := (dC, dI)) (tys := tYS cI cB cO cL) (k := 10 * k + 6 + 1) hx hb hK hW 1 0 rfl rfl (nI_clamp (by omega)) (nI_pos (by omega)) (by omega) dL_isSo_292 ?_
            refine lv_icmp_ne (tgt := 300) hx hb dL_isSo_293 (by decide) (fun h => absurd (rfl) h) (fun _ => ?_)
            refine lv_iconst (v := 1) hx hb dL_isSo_296 (by decide) ?_
            refine lv_goto (tgt := 301) hx hb dL_isSo_297 (by decide) ?_
            refine lv_istore (lv' := [(5, .int 1), (9, .int 1), (4, .int (nI (fa_cnt (hasM m9) (k + 1)))), (8, .int (hvI m9 k)), (7, .int (nI (10 * k))), (6, .int (nI k)), (0, .ref (qk 0)), (1, .ref (qg 0)), (2, .ref (qm 0)), (3, .ref (qw 0))]) hx hb dL_isSo_301 hl (by decide) rfl (fun ls hl => ?_)
            refine lv_iinc (v := 2) (lv' := [(9, .int 2), (5, .int 1), (4, .int (nI (fa_cnt (hasM m9) (k + 1)))), (8, .int (hvI m9 k)), (7, .int (nI (10 * k))), (6, .int (nI k)), (0, .ref (qk 0)), (1, .ref (qg 0)), (2, .ref (qm 0)), (3, .ref (qw 0))]) hx hb dL_isSo_303 hl (k := 1) rfl (by decide) (by decide) rfl (fun ls hl => ?_)
            refine lv_goto (tgt := 264) hx hb dL_isSo_306 (by decide) ?_
            refine lv_iload hx hb dL_isSo_264 (lv_at hl 0 rfl) ?_
            refine lv_iconst (v := 4) hx hb dL_isSo_266 (by decide) ?_
            refine lv_icmp_ge (tgt := 309) hx hb dL_isSo_267 (by decide) (fun h => absurd h (by decide)) (fun _ => ?_)
            refine lv_iload hx hb dL_isSo_270 (lv_at hl 1 rfl) ?_
            refine lv_if_eq (tgt := 300) hx hb dL_isSo_272 (by decide) (fun h => absurd h (by decide)) (fun _ => ?_)
            refine lv_aload_n hx hb dL_isSo_275 rfl (lv_at hl 6 rfl) ?_
            refine lv_iload hx hb dL_isSo_276 (lv_at hl 5 rfl) ?_
            refine lv_iload hx hb dL_isSo_278 (lv_at hl 0 rfl) ?_
            have f14 := heard_at hD kk (i := k) (c := 2) hkM (by omega)
            refine w_heardOf (R := rL_isSo) (cells := cells + 32) (slots := slots + 192) (wo := arW qg qm qw cI g m9 w) hfl hx hb hml hown hts hK hF hC hN hG hA rfl hN0 hS hI hW f14.1 f14.2 (Or.inl rfl) ⟨Nat.le_of_ble_eq_true rfl, Nat.le_of_ble_eq_true rfl⟩ ((m9 (10 * k + (6 + 2)))) (rfl) (Nat.le_of_ble_eq_true rfl) hl.1 dL_isSo_280 ⟨(by omega : cells + 32 + 4 ≤ 304), (by omega : slots + 192 + 24 ≤ 1824)⟩ (fun H locs hI hW hS => ?_)
            refine lv_aload_n hx hb dL_isSo_283 rfl (lv_at hl 8 rfl) ?_
            refine lv_iload hx hb dL_isSo_284 (lv_at hl 4 rfl) ?_
            refine lv_bipush (v := 6) hx hb dL_isSo_286 (by decide) ?_
            refine lv_iadd hx hb dL_isSo_288 ?_
            refine tp_i (show ((nI (10 * k)) + (6 : Int32)) = nI (10 * k + 6) from nI_add (10 * k) 6) ?_
            refine lv_iload hx hb dL_isSo_289 (lv_at hl 0 rfl) ?_
            refine lv_iadd hx hb dL_isSo_291 ?_
            refine tp_i (show ((nI (10 * k + 6)) + (2 : Int32)) = nI (10 * k + 6 + 2) from nI_add (10 * k + 6) 2) ?_
            refine g_ialdK (D := (dC, dI)) (tys := tYS cI cB cO cL) (k := 10 * k + 6 + 2) hx hb hK hW 1 0 rfl rfl (nI_clamp (by omega)) (nI_pos (by omega)) (by omega) dL_isSo_292 ?_
            refine lv_icmp_ne (tgt := 300) hx hb dL_isSo_293 (by decide) (fun h => absurd (rfl) h) (fun _ => ?_)
            refine lv_iconst (v := 1) hx hb dL_isSo_296 (by decide) ?_
            refine lv_goto (tgt := 301) hx hb dL_isSo_297 (by decide) ?_
            refine lv_istore (lv' := [(5, .int 1), (9, .int 2), (4, .int (nI (fa_cnt (hasM m9) (k + 1)))), (8, .int (hvI m9 k)), (7, .int (nI (10 * k))), (6, .int (nI k)), (0, .ref (qk 0)), (1, .ref (qg 0)), (2, .ref (qm 0)), (3, .ref (qw 0))]) hx hb dL_isSo_301 hl (by decide) rfl (fun ls hl => ?_)
            refine lv_iinc (v := 3) (lv' := [(9, .int 3), (5, .int 1), (4, .int (nI (fa_cnt (hasM m9) (k + 1)))), (8, .int (hvI m9 k)), (7, .int (nI (10 * k))), (6, .int (nI k)), (0, .ref (qk 0)), (1, .ref (qg 0)), (2, .ref (qm 0)), (3, .ref (qw 0))]) hx hb dL_isSo_303 hl (k := 1) rfl (by decide) (by decide) rfl (fun ls hl => ?_)
            refine lv_goto (tgt := 264) hx hb dL_isSo_306 (by decide) ?_
            refine lv_iload hx hb dL_isSo_264 (lv_at hl 0 rfl) ?_
            refine lv_iconst (v := 4) hx hb dL_isSo_266 (by decide) ?_
            refine lv_icmp_ge (tgt := 309) hx hb dL_isSo_267 (by decide) (fun h => absurd h (by decide)) (fun _ => ?_)
            refine lv_iload hx hb dL_isSo_270 (lv_at hl 1 rfl) ?_
            refine lv_if_eq (tgt := 300) hx hb dL_isSo_272 (by decide) (fun h => absurd h (by decide)) (fun _ => ?_)
            refine lv_aload_n hx hb dL_isSo_275 rfl (lv_at hl 6 rfl) ?_
            refine lv_iload hx hb dL_isSo_276 (lv_at hl 5 rfl) ?_
            refine lv_iload hx hb dL_isSo_278 (lv_at hl 0 rfl) ?_
            have f15 := heard_at hD kk (i := k) (c := 3) hkM (by omega)
            refine w_heardOf (R := rL_isSo) (cells := cells + 36) (slots := slots + 216) (wo := arW qg qm qw cI g m9 w) hfl hx hb hml hown hts hK hF hC hN hG hA rfl hN0 hS hI hW f15.1 f15.2 (Or.inl rfl) ⟨Nat.le_of_ble_eq_true rfl, Nat.le_of_ble_eq_true rfl⟩ ((m9 (10 * k + (6 + 3)))) (rfl) (Nat.le_of_ble_eq_true rfl) hl.1 dL_isSo_280 ⟨(by omega : cells + 36 + 4 ≤ 304), (by omega : slots + 216 + 24 ≤ 1824)⟩ (fun H locs hI hW hS => ?_)
            refine lv_aload_n hx hb dL_isSo_283 rfl (lv_at hl 8 rfl) ?_
            refine lv_iload hx hb dL_isSo_284 (lv_at hl 4 rfl) ?_
            refine lv_bipush (v := 6) hx hb dL_isSo_286 (by decide) ?_
            refine lv_iadd hx hb dL_isSo_288 ?_
            refine tp_i (show ((nI (10 * k)) + (6 : Int32)) = nI (10 * k + 6) from nI_add (10 * k) 6) ?_
            refine lv_iload hx hb dL_isSo_289 (lv_at hl 0 rfl) ?_
            refine lv_iadd hx hb dL_isSo_291 ?_
            refine tp_i (show ((nI (10 * k + 6)) + (3 : Int32)) = nI (10 * k + 6 + 3) from nI_add (10 * k + 6) 3) ?_
            refine g_ialdK (D := (dC, dI)) (tys := tYS cI cB cO cL) (k := 10 * k + 6 + 3) hx hb hK hW 1 0 rfl rfl (nI_clamp (by omega)) (nI_pos (by omega)) (by omega) dL_isSo_292 ?_
            refine lv_icmp_ne (tgt := 300) hx hb dL_isSo_293 (by decide) (fun h => absurd (rfl) h) (fun _ => ?_)
            refine lv_iconst (v := 1) hx hb dL_isSo_296 (by decide) ?_
            refine lv_goto (tgt := 301) hx hb dL_isSo_297 (by decide) ?_
            refine lv_istore (lv' := [(5, .int 1), (9, .int 3), (4, .int (nI (fa_cnt (hasM m9) (k + 1)))), (8, .int (hvI m9 k)), (7, .int (nI (10 * k))), (6, .int (nI k)), (0, .ref (qk 0)), (1, .ref (qg 0)), (2, .ref (qm 0)), (3, .ref (qw 0))]) hx hb dL_isSo_301 hl (by decide) rfl (fun ls hl => ?_)
            refine lv_iinc (v := 4) (lv' := [(9, .int 4), (5, .int 1), (4, .int (nI (fa_cnt (hasM m9) (k + 1)))), (8, .int (hvI m9 k)), (7, .int (nI (10 * k))), (6, .int (nI k)), (0, .ref (qk 0)), (1, .ref (qg 0)), (2, .ref (qm 0)), (3, .ref (qw 0))]) hx hb dL_isSo_303 hl (k := 1) rfl (by decide) (by decide) rfl (fun ls hl => ?_)
            refine lv_goto (tgt := 264) hx hb dL_isSo_306 (by decide) ?_
            refine lv_iload hx hb dL_isSo_264 (lv_at hl 0 rfl) ?_
            refine lv_iconst (v := 4) hx hb dL_isSo_266 (by decide) ?_
            refine lv_icmp_ge (tgt := 309) hx hb dL_isSo_267 (by decide) (fun _ => ?_) (fun h => absurd h (by decide))
            refine lv_iinc (v := (nI (k + 1))) (lv' := [(6, .int (nI (k + 1))), (9, .int 4), (5, .int 1), (4, .int (nI (fa_cnt (hasM m9) (k + 1)))), (8, .int (hvI m9 k)), (7, .int (nI (10 * k))), (0, .ref (qk 0)), (1, .ref (qg 0)), (2, .ref (qm 0)), (3, .ref (qw 0))]) hx hb dL_isSo_309 hl (k := 5) rfl (nI_add (k) 1) (by decide) rfl (fun ls hl => ?_)
            refine lv_goto (tgt := 68) hx hb dL_isSo_312 (by decide) ?_
            exact ih (k + 1) _ _ _ _ (by omega) hI hW hS _ (lv_sub hl [0, 2, 3, 6, 7, 8, 9] rfl) (by omega) (by omega)
          refine lv_iload hx hb dL_isSo_214 (lv_at hl 3 rfl) ?_
          refine lv_if_ne (tgt := 224) hx hb dL_isSo_216 (by decide) (fun hk0 => ?_) (fun hk0 => ?_)
          · have hk0 : ¬ k = 0 := fun h => hk0 (by rw [h]; rfl)
            refine lv_iload hx hb dL_isSo_224 (lv_at hl 1 rfl) ?_
            refine lv_if_eq (tgt := 249) hx hb dL_isSo_226 (by decide) (fun hh => ?_) (fun hh => ?_)
            · refine lv_ldc (v := (-1000000000)) hx hb hown (hts (.constant RL 23 (-1000000000)) (gTt tw462)) dL_isSo_249 ?_
              refine tp_i (show (-1000000000 : Int32) = (dlV m9 k) from (dlV_n hk0 (Or.inr (hvI_0 hh))).symm) ?_
              exact J251 _ (lv_sub hl [0, 1, 2, 3, 4, 5, 6, 7, 8] rfl)
            · refine lv_aload_n hx hb dL_isSo_229 rfl (lv_at hl 7 rfl) ?_
              refine lv_iconst (v := 4) hx hb dL_isSo_230 (by decide) ?_
              refine g_ialdK (D := (dC, dI)) (tys := tYS cI cB cO cL) (k := 4) hx hb hK hW 1 0 rfl rfl (by decide) (by decide) (by decide) dL_isSo_231 ?_
              refine lv_iconst (v := 1) hx hb dL_isSo_232 (by decide) ?_
              refine lv_icmp_ne (tgt := 249) hx hb dL_isSo_233 (by decide) (fun h4 => ?_) (fun h4 => ?_)
              · refine lv_ldc (v := (-1000000000)) hx hb hown (hts (.constant RL 23 (-1000000000)) (gTt tw462)) dL_isSo_249 ?_
                refine tp_i (show (-1000000000 : Int32) = (dlV m9 k) from (dlV_n hk0 (Or.inl h4)).symm) ?_
                exact J251 _ (lv_sub hl [0, 1, 2, 3, 4, 5, 6, 7, 8] rfl)
              · refine lv_aload_n hx hb dL_isSo_236 rfl (lv_at hl 7 rfl) ?_
                refine lv_iconst (v := 5) hx hb dL_isSo_237 (by decide) ?_
                refine g_ialdK (D := (dC, dI)) (tys := tYS cI cB cO cL) (k := 5) hx hb hK hW 1 0 rfl rfl (by decide) (by decide) (by decide) dL_isSo_238 ?_
                refine lv_aload_n hx hb dL_isSo_239 rfl (lv_at hl 7 rfl) ?_
                refine lv_iload hx hb dL_isSo_240 (lv_at hl 2 rfl) ?_
                refine lv_iconst (v := 5) hx hb dL_isSo_242 (by decide) ?_
                refine lv_iadd hx hb dL_isSo_243 ?_
                refine tp_i (show ((nI (10 * k)) + (5 : Int32)) = nI (10 * k + 5) from nI_add (10 * k) 5) ?_
                refine g_ialdK (D := (dC, dI)) (tys := tYS cI cB cO cL) (k := 10 * k + 5) hx hb hK hW 1 0 rfl rfl (nI_clamp (by omega)) (nI_pos (by omega)) (by omega) dL_isSo_244 ?_
                refine lv_isub hx hb dL_isSo_245 ?_
                refine lv_goto (tgt := 251) hx hb dL_isSo_246 (by decide) ?_
                refine tp_i (show ((m9 5) - (m9 (10 * k + 5))) = (dlV m9 k) from (dlV_y hk0 h4 (hvI_1 hh)).symm) ?_
                exact J251 _ (lv_sub hl [0, 1, 2, 3, 4, 5, 6, 7, 8] rfl)
          · refine lv_ldc (v := (-100000002)) hx hb hown (hts (.constant RL 48 (-100000002)) (gTt tw443)) dL_isSo_219 ?_
            refine lv_goto (tgt := 251) hx hb dL_isSo_221 (by decide) ?_
            refine tp_i (show (-100000002 : Int32) = (dlV m9 k) from (dlV_0 m9 (nI_z (by omega) hk0)).symm) ?_
            exact J251 _ (lv_sub hl [0, 1, 2, 3, 4, 5, 6, 7, 8] rfl)
        refine lv_iload hx hb dL_isSo_188 (lv_at hl 1 rfl) ?_
        refine lv_if_eq (tgt := 202) hx hb dL_isSo_190 (by decide) (fun hh => ?_) (fun hh => ?_)
        · refine lv_ldc (v := (-1000000000)) hx hb hown (hts (.constant RL 23 (-1000000000)) (gTt tw462)) dL_isSo_202 ?_
          refine tp_i (show (-1000000000 : Int32) = (noteR m9 k) from (noteR_n (hvI_0 hh)).symm) ?_
          exact J204 _ (lv_sub hl [0, 1, 2, 3, 4, 5, 6, 7, 8] rfl)
        · refine lv_aload_n hx hb dL_isSo_193 rfl (lv_at hl 7 rfl) ?_
          refine lv_iload hx hb dL_isSo_194 (lv_at hl 2 rfl) ?_
          refine lv_iconst (v := 5) hx hb dL_isSo_196 (by decide) ?_
          refine lv_iadd hx hb dL_isSo_197 ?_
          refine tp_i (show ((nI (10 * k)) + (5 : Int32)) = nI (10 * k + 5) from nI_add (10 * k) 5) ?_
          refine g_ialdK (D := (dC, dI)) (tys := tYS cI cB cO cL) (k := 10 * k + 5) hx hb hK hW 1 0 rfl rfl (nI_clamp (by omega)) (nI_pos (by omega)) (by omega) dL_isSo_198 ?_
          refine lv_goto (tgt := 204) hx hb dL_isSo_199 (by decide) ?_
          refine tp_i (show (m9 (10 * k + 5)) = (noteR m9 k) from (noteR_y (hvI_1 hh)).symm) ?_
          exact J204 _ (lv_sub hl [0, 1, 2, 3, 4, 5, 6, 7, 8] rfl)
      refine lv_iconst (v := 1) hx hb dL_isSo_94 (by decide) ?_
      refine lv_icmp_ne (tgt := 102) hx hb dL_isSo_95 (by decide) (fun hh => ?_) (fun hh => ?_)
      · refine lv_iconst (v := 0) hx hb dL_isSo_102 (by decide) ?_
        refine tp_i (show (0 : Int32) = (hvI m9 k) from (hvI_n hh).symm) ?_
        refine lv_istore (lv' := [(8, .int (hvI m9 k)), (7, .int (nI (10 * k))), (6, .int (nI k)), (5, .int 1), (4, .int (nI (fa_cnt (hasM m9) k))), (0, .ref (qk 0)), (1, .ref (qg 0)), (2, .ref (qm 0)), (3, .ref (qw 0))]) hx hb dL_isSo_103 hl (by decide) rfl (fun ls hl => ?_)
        exact J105 _ (lv_sub hl [0, 1, 2, 3, 4, 5, 6, 7, 8] rfl)
      · refine lv_iconst (v := 1) hx hb dL_isSo_98 (by decide) ?_
        refine lv_goto (tgt := 103) hx hb dL_isSo_99 (by decide) ?_
        refine tp_i (show (1 : Int32) = (hvI m9 k) from (hvI_y hh).symm) ?_
        refine lv_istore (lv' := [(8, .int (hvI m9 k)), (7, .int (nI (10 * k))), (6, .int (nI k)), (5, .int 1), (4, .int (nI (fa_cnt (hasM m9) k))), (0, .ref (qk 0)), (1, .ref (qg 0)), (2, .ref (qm 0)), (3, .ref (qw 0))]) hx hb dL_isSo_103 hl (by decide) rfl (fun ls hl => ?_)
        exact J105 _ (lv_sub hl [0, 1, 2, 3, 4, 5, 6, 7, 8] rfl)
  refine lv_iconst (v := 0) hx hb dL_isSo_0 (by decide) ?_
  refine lv_istore (lv' := [(4, .int 0), (0, .ref (qk 0)), (1, .ref (qg 0)), (2, .ref (qm 0)), (3, .ref (qw 0))]) hx hb dL_isSo_1 hl (by decide) rfl (fun ls hl => ?_)
  refine lv_iconst (v := 1) hx hb dL_isSo_3 (by decide) ?_
  refine lv_istore (lv' := [(5, .int 1), (4, .int 0), (0, .ref (qk 0)), (1, .ref (qg 0)), (2, .ref (qm 0)), (3, .ref (qw 0))]) hx hb dL_isSo_4 hl (by decide) rfl (fun ls hl => ?_)
  refine lv_iconst (v := 0) hx hb dL_isSo_6 (by decide) ?_
  refine lv_istore (lv' := [(6, .int 0), (5, .int 1), (4, .int 0), (0, .ref (qk 0)), (1, .ref (qg 0)), (2, .ref (qm 0)), (3, .ref (qw 0))]) hx hb dL_isSo_7 hl (by decide) rfl (fun ls hl => ?_)
  refine lv_iload hx hb dL_isSo_9 (lv_at hl 0 rfl) ?_
  refine lv_bipush (v := 6) hx hb dL_isSo_11 (by decide) ?_
  refine lv_icmp_ge (tgt := 65) hx hb dL_isSo_13 (by decide) (fun h => absurd h (by decide)) (fun _ => ?_)
  refine lv_iload hx hb dL_isSo_16 (lv_at hl 1 rfl) ?_
  refine lv_if_eq (tgt := 56) hx hb dL_isSo_18 (by decide) (fun h => absurd h (by decide)) (fun _ => ?_)
  refine lv_aload_n hx hb dL_isSo_21 rfl (lv_at hl 3 rfl) ?_
  refine lv_iload hx hb dL_isSo_22 (lv_at hl 0 rfl) ?_
  have f16 := whole_g hD s9 kk (k := 0) (by omega)
  refine w_wholeOf (R := rL_isSo) (cells := 0) (slots := 0) (wo := arW qg qm qw cI g m9 w) hfl hx hb hml hown hts hK hF hC hN hG hA rfl hN0 hS hI hW f16.1 f16.2 (Or.inl rfl) ⟨Nat.le_of_ble_eq_true rfl, Nat.le_of_ble_eq_true rfl⟩ ((g 0)) (rfl) (Nat.le_of_ble_eq_true rfl) hl.1 dL_isSo_24 ⟨(by omega : 0 + 4 ≤ 304), (by omega : 0 + 24 ≤ 1824)⟩ (fun H locs hI hW hS => ?_)
  refine lv_aload_n hx hb dL_isSo_27 rfl (lv_at hl 4 rfl) ?_
  refine lv_iload hx hb dL_isSo_28 (lv_at hl 0 rfl) ?_
  refine g_ialdK (D := (dC, dI)) (tys := tYS cI cB cO cL) (k := 0) hx hb hK hW 0 0 rfl rfl (by decide) (by decide) (by decide) dL_isSo_30 ?_
  refine lv_icmp_ne (tgt := 56) hx hb dL_isSo_31 (by decide) (fun h => absurd (rfl) h) (fun _ => ?_)
  refine lv_aload_n hx hb dL_isSo_34 rfl (lv_at hl 3 rfl) ?_
  refine lv_iconst (v := 3) hx hb dL_isSo_35 (by decide) ?_
  refine lv_iload hx hb dL_isSo_36 (lv_at hl 0 rfl) ?_
  refine lv_iconst (v := 0) hx hb dL_isSo_38 (by decide) ?_
  have f17 := part3 hD kk (i := 0) (by omega)
  refine w_partOf (R := rL_isSo) (cells := 4) (slots := 24) (wo := arW qg qm qw cI g m9 w) hfl hx hb hml hown hts hK hF hC hN hG hA rfl hN0 hS hI hW f17.1 f17.2 (Or.inl rfl) ⟨Nat.le_of_ble_eq_true rfl, Nat.le_of_ble_eq_true rfl⟩ ((g (7 + 0))) (rfl) (Nat.le_of_ble_eq_true rfl) hl.1 dL_isSo_39 ⟨(by omega : 4 + 4 ≤ 304), (by omega : 24 + 24 ≤ 1824)⟩ (fun H locs hI hW hS => ?_)
  refine lv_aload_n hx hb dL_isSo_42 rfl (lv_at hl 4 rfl) ?_
  refine lv_bipush (v := 7) hx hb dL_isSo_43 (by decide) ?_
  refine lv_iload hx hb dL_isSo_45 (lv_at hl 0 rfl) ?_
  refine lv_iadd hx hb dL_isSo_47 ?_
  refine tp_i (show ((7 : Int32) + (0 : Int32)) = (7 : Int32) from by decide) ?_
  refine g_ialdK (D := (dC, dI)) (tys := tYS cI cB cO cL) (k := 7) hx hb hK hW 0 0 rfl rfl (by decide) (by decide) (by decide) dL_isSo_48 ?_
  refine lv_icmp_ne (tgt := 56) hx hb dL_isSo_49 (by decide) (fun h => absurd (rfl) h) (fun _ => ?_)
  refine lv_iconst (v := 1) hx hb dL_isSo_52 (by decide) ?_
  refine lv_goto (tgt := 57) hx hb dL_isSo_53 (by decide) ?_
  refine lv_istore (lv' := [(5, .int 1), (6, .int 0), (4, .int 0), (0, .ref (qk 0)), (1, .ref (qg 0)), (2, .ref (qm 0)), (3, .ref (qw 0))]) hx hb dL_isSo_57 hl (by decide) rfl (fun ls hl => ?_)
  refine lv_iinc (v := 1) (lv' := [(6, .int 1), (5, .int 1), (4, .int 0), (0, .ref (qk 0)), (1, .ref (qg 0)), (2, .ref (qm 0)), (3, .ref (qw 0))]) hx hb dL_isSo_59 hl (k := 1) rfl (by decide) (by decide) rfl (fun ls hl => ?_)
  refine lv_goto (tgt := 9) hx hb dL_isSo_62 (by decide) ?_
  refine lv_iload hx hb dL_isSo_9 (lv_at hl 0 rfl) ?_
  refine lv_bipush (v := 6) hx hb dL_isSo_11 (by decide) ?_
  refine lv_icmp_ge (tgt := 65) hx hb dL_isSo_13 (by decide) (fun h => absurd h (by decide)) (fun _ => ?_)
  refine lv_iload hx hb dL_isSo_16 (lv_at hl 1 rfl) ?_
  refine lv_if_eq (tgt := 56) hx hb dL_isSo_18 (by decide) (fun h => absurd h (by decide)) (fun _ => ?_)
  refine lv_aload_n hx hb dL_isSo_21 rfl (lv_at hl 3 rfl) ?_
  refine lv_iload hx hb dL_isSo_22 (lv_at hl 0 rfl) ?_
  have f18 := whole_g hD s9 kk (k := 1) (by omega)
  refine w_wholeOf (R := rL_isSo) (cells := 8) (slots := 48) (wo := arW qg qm qw cI g m9 w) hfl hx hb hml hown hts hK hF hC hN hG hA rfl hN0 hS hI hW f18.1 f18.2 (Or.inl rfl) ⟨Nat.le_of_ble_eq_true rfl, Nat.le_of_ble_eq_true rfl⟩ ((g 1)) (rfl) (Nat.le_of_ble_eq_true rfl) hl.1 dL_isSo_24 ⟨(by omega : 8 + 4 ≤ 304), (by omega : 48 + 24 ≤ 1824)⟩ (fun H locs hI hW hS => ?_)
  refine lv_aload_n hx hb dL_isSo_27 rfl (lv_at hl 4 rfl) ?_
  refine lv_iload hx hb dL_isSo_28 (lv_at hl 0 rfl) ?_
  refine g_ialdK (D := (dC, dI)) (tys := tYS cI cB cO cL) (k := 1) hx hb hK hW 0 0 rfl rfl (by decide) (by decide) (by decide) dL_isSo_30 ?_
  refine lv_icmp_ne (tgt := 56) hx hb dL_isSo_31 (by decide) (fun h => absurd (rfl) h) (fun _ => ?_)
  refine lv_aload_n hx hb dL_isSo_34 rfl (lv_at hl 3 rfl) ?_
  refine lv_iconst (v := 3) hx hb dL_isSo_35 (by decide) ?_
  refine lv_iload hx hb dL_isSo_36 (lv_at hl 0 rfl) ?_
  refine lv_iconst (v := 0) hx hb dL_isSo_38 (by decide) ?_
  have f19 := part3 hD kk (i := 1) (by omega)
  refine w_partOf (R := rL_isSo) (cells := 12) (slots := 72) (wo := arW qg qm qw cI g m9 w) hfl hx hb hml hown hts hK hF hC hN hG hA rfl hN0 hS hI hW f19.1 f19.2 (Or.inl rfl) ⟨Nat.le_of_ble_eq_true rfl, Nat.le_of_ble_eq_true rfl⟩ ((g (7 + 1))) (rfl) (Nat.le_of_ble_eq_true rfl) hl.1 dL_isSo_39 ⟨(by omega : 12 + 4 ≤ 304), (by omega : 72 + 24 ≤ 1824)⟩ (fun H locs hI hW hS => ?_)
  refine lv_aload_n hx hb dL_isSo_42 rfl (lv_at hl 4 rfl) ?_
  refine lv_bipush (v := 7) hx hb dL_isSo_43 (by decide) ?_
  refine lv_iload hx hb dL_isSo_45 (lv_at hl 0 rfl) ?_
  refine lv_iadd hx hb dL_isSo_47 ?_
  refine tp_i (show ((7 : Int32) + (1 : Int32)) = (8 : Int32) from by decide) ?_
  refine g_ialdK (D := (dC, dI)) (tys := tYS cI cB cO cL) (k := 8) hx hb hK hW 0 0 rfl rfl (by decide) (by decide) (by decide) dL_isSo_48 ?_
  refine lv_icmp_ne (tgt := 56) hx hb dL_isSo_49 (by decide) (fun h => absurd (rfl) h) (fun _ => ?_)
  refine lv_iconst (v := 1) hx hb dL_isSo_52 (by decide) ?_
  refine lv_goto (tgt := 57) hx hb dL_isSo_53 (by decide) ?_
  refine lv_istore (lv' := [(5, .int 1), (6, .int 1), (4, .int 0), (0, .ref (qk 0)), (1, .ref (qg 0)), (2, .ref (qm 0)), (3, .ref (qw 0))]) hx hb dL_isSo_57 hl (by decide) rfl (fun ls hl => ?_)
  refine lv_iinc (v := 2) (lv' := [(6, .int 2), (5, .int 1), (4, .int 0), (0, .ref (qk 0)), (1, .ref (qg 0)), (2, .ref (qm 0)), (3, .ref (qw 0))]) hx hb dL_isSo_59 hl (k := 1) rfl (by decide) (by decide) rfl (fun ls hl => ?_)
  refine lv_goto (tgt := 9) hx hb dL_isSo_62 (by decide) ?_
  refine lv_iload hx hb dL_isSo_9 (lv_at hl 0 rfl) ?_
  refine lv_bipush (v := 6) hx hb dL_isSo_11 (by decide) ?_
  refine lv_icmp_ge (tgt := 65) hx hb dL_isSo_13 (by decide) (fun h => absurd h (by decide)) (fun _ => ?_)
  refine lv_iload hx hb dL_isSo_16 (lv_at hl 1 rfl) ?_
  refine lv_if_eq (tgt := 56) hx hb dL_isSo_18 (by decide) (fun h => absurd h (by decide)) (fun _ => ?_)
  refine lv_aload_n hx hb dL_isSo_21 rfl (lv_at hl 3 rfl) ?_
  refine lv_iload hx hb dL_isSo_22 (lv_at hl 0 rfl) ?_
  have f20 := whole_g hD s9 kk (k := 2) (by omega)
  refine w_wholeOf (R := rL_isSo) (cells := 16) (slots := 96) (wo := arW qg qm qw cI g m9 w) hfl hx hb hml hown hts hK hF hC hN hG hA rfl hN0 hS hI hW f20.1 f20.2 (Or.inl rfl) ⟨Nat.le_of_ble_eq_true rfl, Nat.le_of_ble_eq_true rfl⟩ ((g 2)) (rfl) (Nat.le_of_ble_eq_true rfl) hl.1 dL_isSo_24 ⟨(by omega : 16 + 4 ≤ 304), (by omega : 96 + 24 ≤ 1824)⟩ (fun H locs hI hW hS => ?_)
  refine lv_aload_n hx hb dL_isSo_27 rfl (lv_at hl 4 rfl) ?_
  refine lv_iload hx hb dL_isSo_28 (lv_at hl 0 rfl) ?_
  refine g_ialdK (D := (dC, dI)) (tys := tYS cI cB cO cL) (k := 2) hx hb hK hW 0 0 rfl rfl (by decide) (by decide) (by decide) dL_isSo_30 ?_
  refine lv_icmp_ne (tgt := 56) hx hb dL_isSo_31 (by decide) (fun h => absurd (rfl) h) (fun _ => ?_)
  refine lv_aload_n hx hb dL_isSo_34 rfl (lv_at hl 3 rfl) ?_
  refine lv_iconst (v := 3) hx hb dL_isSo_35 (by decide) ?_
  refine lv_iload hx hb dL_isSo_36 (lv_at hl 0 rfl) ?_
  refine lv_iconst (v := 0) hx hb dL_isSo_38 (by decide) ?_
  have f21 := part3 hD kk (i := 2) (by omega)
  refine w_partOf (R := rL_isSo) (cells := 20) (slots := 120) (wo := arW qg qm qw cI g m9 w) hfl hx hb hml hown hts hK hF hC hN hG hA rfl hN0 hS hI hW f21.1 f21.2 (Or.inl rfl) ⟨Nat.le_of_ble_eq_true rfl, Nat.le_of_ble_eq_true rfl⟩ ((g (7 + 2))) (rfl) (Nat.le_of_ble_eq_true rfl) hl.1 dL_isSo_39 ⟨(by omega : 20 + 4 ≤ 304), (by omega : 120 + 24 ≤ 1824)⟩ (fun H locs hI hW hS => ?_)
  refine lv_aload_n hx hb dL_isSo_42 rfl (lv_at hl 4 rfl) ?_
  refine lv_bipush (v := 7) hx hb dL_isSo_43 (by decide) ?_
  refine lv_iload hx hb dL_isSo_45 (lv_at hl 0 rfl) ?_
  refine lv_iadd hx hb dL_isSo_47 ?_
  refine tp_i (show ((7 : Int32) + (2 : Int32)) = (9 : Int32) from by decide) ?_
  refine g_ialdK (D := (dC, dI)) (tys := tYS cI cB cO cL) (k := 9) hx hb hK hW 0 0 rfl rfl (by decide) (by decide) (by decide) dL_isSo_48 ?_
  refine lv_icmp_ne (tgt := 56) hx hb dL_isSo_49 (by decide) (fun h => absurd (rfl) h) (fun _ => ?_)
  refine lv_iconst (v := 1) hx hb dL_isSo_52 (by decide) ?_
  refine lv_goto (tgt := 57) hx hb dL_isSo_53 (by decide) ?_
  refine lv_istore (lv' := [(5, .int 1), (6, .int 2), (4, .int 0), (0, .ref (qk 0)), (1, .ref (qg 0)), (2, .ref (qm 0)), (3, .ref (qw 0))]) hx hb dL_isSo_57 hl (by decide) rfl (fun ls hl => ?_)
  refine lv_iinc (v := 3) (lv' := [(6, .int 3), (5, .int 1), (4, .int 0), (0, .ref (qk 0)), (1, .ref (qg 0)), (2, .ref (qm 0)), (3, .ref (qw 0))]) hx hb dL_isSo_59 hl (k := 1) rfl (by decide) (by decide) rfl (fun ls hl => ?_)
  refine lv_goto (tgt := 9) hx hb dL_isSo_62 (by decide) ?_
  refine lv_iload hx hb dL_isSo_9 (lv_at hl 0 rfl) ?_
  refine lv_bipush (v := 6) hx hb dL_isSo_11 (by decide) ?_
  refine lv_icmp_ge (tgt := 65) hx hb dL_isSo_13 (by decide) (fun h => absurd h (by decide)) (fun _ => ?_)
  refine lv_iload hx hb dL_isSo_16 (lv_at hl 1 rfl) ?_
  refine lv_if_eq (tgt := 56) hx hb dL_isSo_18 (by decide) (fun h => absurd h (by decide)) (fun _ => ?_)
  refine lv_aload_n hx hb dL_isSo_21 rfl (lv_at hl 3 rfl) ?_
  refine lv_iload hx hb dL_isSo_22 (lv_at hl 0 rfl) ?_
  have f22 := whole_g hD s9 kk (k := 3) (by omega)
  refine w_wholeOf (R := rL_isSo) (cells := 24) (slots := 144) (wo := arW qg qm qw cI g m9 w) hfl hx hb hml hown hts hK hF hC hN hG hA rfl hN0 hS hI hW f22.1 f22.2 (Or.inl rfl) ⟨Nat.le_of_ble_eq_true rfl, Nat.le_of_ble_eq_true rfl⟩ ((g 3)) (rfl) (Nat.le_of_ble_eq_true rfl) hl.1 dL_isSo_24 ⟨(by omega : 24 + 4 ≤ 304), (by omega : 144 + 24 ≤ 1824)⟩ (fun H locs hI hW hS => ?_)
  refine lv_aload_n hx hb dL_isSo_27 rfl (lv_at hl 4 rfl) ?_
  refine lv_iload hx hb dL_isSo_28 (lv_at hl 0 rfl) ?_
  refine g_ialdK (D := (dC, dI)) (tys := tYS cI cB cO cL) (k := 3) hx hb hK hW 0 0 rfl rfl (by decide) (by decide) (by decide) dL_isSo_30 ?_
  refine lv_icmp_ne (tgt := 56) hx hb dL_isSo_31 (by decide) (fun h => absurd (rfl) h) (fun _ => ?_)
  refine lv_aload_n hx hb dL_isSo_34 rfl (lv_at hl 3 rfl) ?_
  refine lv_iconst (v := 3) hx hb dL_isSo_35 (by decide) ?_
  refine lv_iload hx hb dL_isSo_36 (lv_at hl 0 rfl) ?_
  refine lv_iconst (v := 0) hx hb dL_isSo_38 (by decide) ?_
  have f23 := part3 hD kk (i := 3) (by omega)
  refine w_partOf (R := rL_isSo) (cells := 28) (slots := 168) (wo := arW qg qm qw cI g m9 w) hfl hx hb hml hown hts hK hF hC hN hG hA rfl hN0 hS hI hW f23.1 f23.2 (Or.inl rfl) ⟨Nat.le_of_ble_eq_true rfl, Nat.le_of_ble_eq_true rfl⟩ ((g (7 + 3))) (rfl) (Nat.le_of_ble_eq_true rfl) hl.1 dL_isSo_39 ⟨(by omega : 28 + 4 ≤ 304), (by omega : 168 + 24 ≤ 1824)⟩ (fun H locs hI hW hS => ?_)
  refine lv_aload_n hx hb dL_isSo_42 rfl (lv_at hl 4 rfl) ?_
  refine lv_bipush (v := 7) hx hb dL_isSo_43 (by decide) ?_
  refine lv_iload hx hb dL_isSo_45 (lv_at hl 0 rfl) ?_
  refine lv_iadd hx hb dL_isSo_47 ?_
  refine tp_i (show ((7 : Int32) + (3 : Int32)) = (10 : Int32) from by decide) ?_
  refine g_ialdK (D := (dC, dI)) (tys := tYS cI cB cO cL) (k := 10) hx hb hK hW 0 0 rfl rfl (by decide) (by decide) (by decide) dL_isSo_48 ?_
  refine lv_icmp_ne (tgt := 56) hx hb dL_isSo_49 (by decide) (fun h => absurd (rfl) h) (fun _ => ?_)
  refine lv_iconst (v := 1) hx hb dL_isSo_52 (by decide) ?_
  refine lv_goto (tgt := 57) hx hb dL_isSo_53 (by decide) ?_
  refine lv_istore (lv' := [(5, .int 1), (6, .int 3), (4, .int 0), (0, .ref (qk 0)), (1, .ref (qg 0)), (2, .ref (qm 0)), (3, .ref (qw 0))]) hx hb dL_isSo_57 hl (by decide) rfl (fun ls hl => ?_)
  refine lv_iinc (v := 4) (lv' := [(6, .int 4), (5, .int 1), (4, .int 0), (0, .ref (qk 0)), (1, .ref (qg 0)), (2, .ref (qm 0)), (3, .ref (qw 0))]) hx hb dL_isSo_59 hl (k := 1) rfl (by decide) (by decide) rfl (fun ls hl => ?_)
  refine lv_goto (tgt := 9) hx hb dL_isSo_62 (by decide) ?_
  refine lv_iload hx hb dL_isSo_9 (lv_at hl 0 rfl) ?_
  refine lv_bipush (v := 6) hx hb dL_isSo_11 (by decide) ?_
  refine lv_icmp_ge (tgt := 65) hx hb dL_isSo_13 (by decide) (fun h => absurd h (by decide)) (fun _ => ?_)
  refine lv_iload hx hb dL_isSo_16 (lv_at hl 1 rfl) ?_
  refine lv_if_eq (tgt := 56) hx hb dL_isSo_18 (by decide) (fun h => absurd h (by decide)) (fun _ => ?_)
  refine lv_aload_n hx hb dL_isSo_21 rfl (lv_at hl 3 rfl) ?_
  refine lv_iload hx hb dL_isSo_22 (lv_at hl 0 rfl) ?_
  have f24 := whole_g hD s9 kk (k := 4) (by omega)
  refine w_wholeOf (R := rL_isSo) (cells := 32) (slots := 192) (wo := arW qg qm qw cI g m9 w) hfl hx hb hml hown hts hK hF hC hN hG hA rfl hN0 hS hI hW f24.1 f24.2 (Or.inl rfl) ⟨Nat.le_of_ble_eq_true rfl, Nat.le_of_ble_eq_true rfl⟩ ((g 4)) (rfl) (Nat.le_of_ble_eq_true rfl) hl.1 dL_isSo_24 ⟨(by omega : 32 + 4 ≤ 304), (by omega : 192 + 24 ≤ 1824)⟩ (fun H locs hI hW hS => ?_)
  refine lv_aload_n hx hb dL_isSo_27 rfl (lv_at hl 4 rfl) ?_
  refine lv_iload hx hb dL_isSo_28 (lv_at hl 0 rfl) ?_
  refine g_ialdK (D := (dC, dI)) (tys := tYS cI cB cO cL) (k := 4) hx hb hK hW 0 0 rfl rfl (by decide) (by decide) (by decide) dL_isSo_30 ?_
  refine lv_icmp_ne (tgt := 56) hx hb dL_isSo_31 (by decide) (fun h => absurd (rfl) h) (fun _ => ?_)
  refine lv_aload_n hx hb dL_isSo_34 rfl (lv_at hl 3 rfl) ?_
  refine lv_iconst (v := 3) hx hb dL_isSo_35 (by decide) ?_
  refine lv_iload hx hb dL_isSo_36 (lv_at hl 0 rfl) ?_
  refine lv_iconst (v := 0) hx hb dL_isSo_38 (by decide) ?_
  have f25 := part3 hD kk (i := 4) (by omega)
  refine w_partOf (R := rL_isSo) (cells := 36) (slots := 216) (wo := arW qg qm qw cI g m9 w) hfl hx hb hml hown hts hK hF hC hN hG hA rfl hN0 hS hI hW f25.1 f25.2 (Or.inl rfl) ⟨Nat.le_of_ble_eq_true rfl, Nat.le_of_ble_eq_true rfl⟩ ((g (7 + 4))) (rfl) (Nat.le_of_ble_eq_true rfl) hl.1 dL_isSo_39 ⟨(by omega : 36 + 4 ≤ 304), (by omega : 216 + 24 ≤ 1824)⟩ (fun H locs hI hW hS => ?_)
  refine lv_aload_n hx hb dL_isSo_42 rfl (lv_at hl 4 rfl) ?_
  refine lv_bipush (v := 7) hx hb dL_isSo_43 (by decide) ?_
  refine lv_iload hx hb dL_isSo_45 (lv_at hl 0 rfl) ?_
  refine lv_iadd hx hb dL_isSo_47 ?_
  refine tp_i (show ((7 : Int32) + (4 : Int32)) = (11 : Int32) from by decide) ?_
  refine g_ialdK (D := (dC, dI)) (tys := tYS cI cB cO cL) (k := 11) hx hb hK hW 0 0 rfl rfl (by decide) (by decide) (by decide) dL_isSo_48 ?_
  refine lv_icmp_ne (tgt := 56) hx hb dL_isSo_49 (by decide) (fun h => absurd (rfl) h) (fun _ => ?_)
  refine lv_iconst (v := 1) hx hb dL_isSo_52 (by decide) ?_
  refine lv_goto (tgt := 57) hx hb dL_isSo_53 (by decide) ?_
  refine lv_istore (lv' := [(5, .int 1), (6, .int 4), (4, .int 0), (0, .ref (qk 0)), (1, .ref (qg 0)), (2, .ref (qm 0)), (3, .ref (qw 0))]) hx hb dL_isSo_57 hl (by decide) rfl (fun ls hl => ?_)
  refine lv_iinc (v := 5) (lv' := [(6, .int 5), (5, .int 1), (4, .int 0), (0, .ref (qk 0)), (1, .ref (qg 0)), (2, .ref (qm 0)), (3, .ref (qw 0))]) hx hb dL_isSo_59 hl (k := 1) rfl (by decide) (by decide) rfl (fun ls hl => ?_)
  refine lv_goto (tgt := 9) hx hb dL_isSo_62 (by decide) ?_
  refine lv_iload hx hb dL_isSo_9 (lv_at hl 0 rfl) ?_
  refine lv_bipush (v := 6) hx hb dL_isSo_11 (by decide) ?_
  refine lv_icmp_ge (tgt := 65) hx hb dL_isSo_13 (by decide) (fun h => absurd h (by decide)) (fun _ => ?_)
  refine lv_iload hx hb dL_isSo_16 (lv_at hl 1 rfl) ?_
  refine lv_if_eq (tgt := 56) hx hb dL_isSo_18 (by decide) (fun h => absurd h (by decide)) (fun _ => ?_)
  refine lv_aload_n hx hb dL_isSo_21 rfl (lv_at hl 3 rfl) ?_
  refine lv_iload hx hb dL_isSo_22 (lv_at hl 0 rfl) ?_
  have f26 := whole_g hD s9 kk (k := 5) (by omega)
  refine w_wholeOf (R := rL_isSo) (cells := 40) (slots := 240) (wo := arW qg qm qw cI g m9 w) hfl hx hb hml hown hts hK hF hC hN hG hA rfl hN0 hS hI hW f26.1 f26.2 (Or.inl rfl) ⟨Nat.le_of_ble_eq_true rfl, Nat.le_of_ble_eq_true rfl⟩ ((g 5)) (rfl) (Nat.le_of_ble_eq_true rfl) hl.1 dL_isSo_24 ⟨(by omega : 40 + 4 ≤ 304), (by omega : 240 + 24 ≤ 1824)⟩ (fun H locs hI hW hS => ?_)
  refine lv_aload_n hx hb dL_isSo_27 rfl (lv_at hl 4 rfl) ?_
  refine lv_iload hx hb dL_isSo_28 (lv_at hl 0 rfl) ?_
  refine g_ialdK (D := (dC, dI)) (tys := tYS cI cB cO cL) (k := 5) hx hb hK hW 0 0 rfl rfl (by decide) (by decide) (by decide) dL_isSo_30 ?_
  refine lv_icmp_ne (tgt := 56) hx hb dL_isSo_31 (by decide) (fun h => absurd (rfl) h) (fun _ => ?_)
  refine lv_aload_n hx hb dL_isSo_34 rfl (lv_at hl 3 rfl) ?_
  refine lv_iconst (v := 3) hx hb dL_isSo_35 (by decide) ?_
  refine lv_iload hx hb dL_isSo_36 (lv_at hl 0 rfl) ?_
  refine lv_iconst (v := 0) hx hb dL_isSo_38 (by decide) ?_
  have f27 := part3 hD kk (i := 5) (by omega)
  refine w_partOf (R := rL_isSo) (cells := 44) (slots := 264) (wo := arW qg qm qw cI g m9 w) hfl hx hb hml hown hts hK hF hC hN hG hA rfl hN0 hS hI hW f27.1 f27.2 (Or.inl rfl) ⟨Nat.le_of_ble_eq_true rfl, Nat.le_of_ble_eq_true rfl⟩ ((g (7 + 5))) (rfl) (Nat.le_of_ble_eq_true rfl) hl.1 dL_isSo_39 ⟨(by omega : 44 + 4 ≤ 304), (by omega : 264 + 24 ≤ 1824)⟩ (fun H locs hI hW hS => ?_)
  refine lv_aload_n hx hb dL_isSo_42 rfl (lv_at hl 4 rfl) ?_
  refine lv_bipush (v := 7) hx hb dL_isSo_43 (by decide) ?_
  refine lv_iload hx hb dL_isSo_45 (lv_at hl 0 rfl) ?_
  refine lv_iadd hx hb dL_isSo_47 ?_
  refine tp_i (show ((7 : Int32) + (5 : Int32)) = (12 : Int32) from by decide) ?_
  refine g_ialdK (D := (dC, dI)) (tys := tYS cI cB cO cL) (k := 12) hx hb hK hW 0 0 rfl rfl (by decide) (by decide) (by decide) dL_isSo_48 ?_
  refine lv_icmp_ne (tgt := 56) hx hb dL_isSo_49 (by decide) (fun h => absurd (rfl) h) (fun _ => ?_)
  refine lv_iconst (v := 1) hx hb dL_isSo_52 (by decide) ?_
  refine lv_goto (tgt := 57) hx hb dL_isSo_53 (by decide) ?_
  refine lv_istore (lv' := [(5, .int 1), (6, .int 5), (4, .int 0), (0, .ref (qk 0)), (1, .ref (qg 0)), (2, .ref (qm 0)), (3, .ref (qw 0))]) hx hb dL_isSo_57 hl (by decide) rfl (fun ls hl => ?_)
  refine lv_iinc (v := 6) (lv' := [(6, .int 6), (5, .int 1), (4, .int 0), (0, .ref (qk 0)), (1, .ref (qg 0)), (2, .ref (qm 0)), (3, .ref (qw 0))]) hx hb dL_isSo_59 hl (k := 1) rfl (by decide) (by decide) rfl (fun ls hl => ?_)
  refine lv_goto (tgt := 9) hx hb dL_isSo_62 (by decide) ?_
  refine lv_iload hx hb dL_isSo_9 (lv_at hl 0 rfl) ?_
  refine lv_bipush (v := 6) hx hb dL_isSo_11 (by decide) ?_
  refine lv_icmp_ge (tgt := 65) hx hb dL_isSo_13 (by decide) (fun _ => ?_) (fun h => absurd h (by decide))
  refine lv_iconst (v := 0) hx hb dL_isSo_65 (by decide) ?_
  refine lv_istore (lv' := [(6, .int 0), (5, .int 1), (4, .int 0), (0, .ref (qk 0)), (1, .ref (qg 0)), (2, .ref (qm 0)), (3, .ref (qw 0))]) hx hb dL_isSo_66 hl (by decide) rfl (fun ls hl => ?_)
  exact T68 Mn 0 _ _ _ _ (by omega) hI hW hS _ (lv_sub hl [0, 1, 2, 3, 4, 5, 6] rfl) (by omega) (by omega)
end SISSO
