/-! THE LAW: it sounds -/
section SSOUND
theorem rgN {n z : Nat} (h : n ≤ z) (hz : z < 2 ^ 31 := by decide) : rg (nI n) 0 z := by
  have e := nI_toInt (n := n) (by omega)
  exact ⟨by rw [e]; omega, by rw [e]; omega⟩
theorem off_x {j a : Nat} (ha : a ≤ 1000) (hj : j ≤ 3000 + a) : ∃ x : Int32, nI j - nI a = x ∧ rg x (-1000) 3000 := by
  have h1 := nI_off (j := j) (a := a) (by omega) (by omega)
  exact ⟨_, rfl, by rw [h1]; omega, by rw [h1]; omega⟩
def offI (m1 m2 : Nat → Int32) (k : Nat) : Prop := offC m1 m2 k ∧ ∀ q, 10 * k ≤ q → m2 q = m1 q
theorem offI_0 (m1 : Nat → Int32) : offI m1 m1 0 := ⟨fun i hi => absurd hi (Nat.not_lt_zero i), fun _ _ => rfl⟩
theorem offI_s {m1 m2 m3 : Nat → Int32} {k : Nat} (h : offI m1 m2 k) (e : m3 = upd m2 (10 * k + 5) (m2 (10 * k + 5) - m2 (10 * k + 3))) : offI m1 m3 (k + 1) := by
  subst e
  refine ⟨fun i hi => ?_, fun q hq => ?_⟩
  · by_cases h9 : i = k
    · subst h9
      refine ⟨fun c hc h5 => ?_, ?_⟩
      · rw [upd_ne _ _ (show 10 * i + c ≠ 10 * i + 5 by omega)]
        exact h.2 _ (by omega)
      · rw [upd_eq, h.2 _ (by omega), h.2 _ (by omega)]
    · have h1 := h.1 i (by omega)
      refine ⟨fun c hc h5 => ?_, ?_⟩
      · rw [upd_ne _ _ (show 10 * i + c ≠ 10 * k + 5 by omega)]
        exact h1.1 c hc h5
      · rw [upd_ne _ _ (show 10 * i + 5 ≠ 10 * k + 5 by omega)]
        exact h1.2
  · rw [upd_ne _ _ (show q ≠ 10 * k + 5 by omega)]
    exact h.2 q (by omega)
def setI (g m1 : Nat → Int32) (x y t : Int32) (m2 : Nat → Int32) (k : Nat) : Prop := setK g m1 m2 x y t k ∧ ∀ q, 10 * k ≤ q → m2 q = m1 q
theorem setI_0 (g m1 : Nat → Int32) (x y t : Int32) : setI g m1 x y t m1 0 := ⟨fun i hi => absurd hi (Nat.not_lt_zero i), fun _ _ => rfl⟩
theorem setI_s {g m1 m2 m3 m4 : Nat → Int32} {x y t : Int32} {k : Nat} (h : setI g m1 x y t m2 k) (e3 : m3 = upd m2 (10 * k + 3) (offK g m1 x y t k)) (e4 : m4 = upd m3 (10 * k + 5) (m3 (10 * k + 5) - m3 (10 * k + 3))) : setI g m1 x y t m4 (k + 1) := by
  have a3 : m3 (10 * k + 3) = offK g m1 x y t k := by rw [e3, upd_eq]
  have a5 : m3 (10 * k + 5) = m1 (10 * k + 5) := by
    rw [e3, upd_ne _ _ (show 10 * k + 5 ≠ 10 * k + 3 by omega)]
    exact h.2 _ (by omega)
  rw [a3, a5] at e4
  have o : ∀ q, q ≠ 10 * k + 3 → q ≠ 10 * k + 5 → m4 q = m2 q := fun q h3 h5 => by rw [e4, upd_ne _ _ h5, e3, upd_ne _ _ h3]
  have b5 : m4 (10 * k + 5) = m1 (10 * k + 5) - offK g m1 x y t k := by rw [e4, upd_eq]
  have b3 : m4 (10 * k + 3) = offK g m1 x y t k := by rw [e4, upd_ne _ _ (show 10 * k + 3 ≠ 10 * k + 5 by omega), a3]
  refine ⟨fun i hi => ?_, fun q hq => by rw [o q (by omega) (by omega)]; exact h.2 q (by omega)⟩
  by_cases h9 : i = k
  · subst h9
    exact ⟨fun c hc h3 h5 => by rw [o _ (by omega) (by omega)]; exact h.2 _ (by omega), b3, b5⟩
  · have h1 := h.1 i (by omega)
    exact ⟨fun c hc h3 h5 => by rw [o _ (by omega) (by omega)]; exact h1.1 c hc h3 h5, by rw [o _ (by omega) (by omega)]; exact h1.2.1, by rw [o _ (by omega) (by omega)]; exact h1.2.2⟩
theorem offK_y {g m1 : Nat → Int32} {x y t : Int32} {i : Nat} (h : m1 (10 * i + 4) = 1) : offK g m1 x y t i = m1 (10 * i + 5) - t - Dl g m1 x y i := if_pos h
theorem offK_n {g m1 : Nat → Int32} {x y t : Int32} {i : Nat} (h : ¬ m1 (10 * i + 4) = 1) : offK g m1 x y t i = 0 := if_neg h
theorem chgK_y {g m1 : Nat → Int32} {x y t : Int32} {i : Nat} (h : ¬ offK g m1 x y t i = m1 (10 * i + 3)) : bz (chgK g m1 x y t i) = 1 := by
  unfold chgK
  rw [decide_eq_true h]
  rfl
theorem chgK_n {g m1 : Nat → Int32} {x y t : Int32} {i : Nat} (h : offK g m1 x y t i = m1 (10 * i + 3)) : bz (chgK g m1 x y t i) = 0 := by
  unfold chgK
  rw [decide_eq_false (fun h9 => h9 h)]
  rfl
abbrev rL_sounds : Room := { frames := 10, cells := 5, slots := 84, locals := 205 }
set_option maxHeartbeats 8000000 in
set_option maxRecDepth 100000 in
theorem mL_sounds (l : Launch) (hfl : l.stackTraces = false) (dC : Nat → ClassId) (dI : Nat → Nat → Nat) (cI cB cO cL : ClassId) (N0 : Nat) (sT eA qb qs qu qr qe qk qx qd qg qm qw : Nat → Nat) (b : BS) (s9 : SS) (u : US) (tr te : TS) (g m9 w : Nat → Int32) (kk : Int32) (kn : Int32) (vn : Nat) (sz : Nat) (hsz : N0 ≤ sz) (hG0 : gC (fun q => N0 ≤ q) (cpT qb qs qu qr qe qk [qg 0, qm 0, qw 0])) (hR0 : RelT (b, s9, u, tr, te) g m9 w) (hvn : vn < 10000000) (hkn : kn = 0 ∨ kn = 1) : Met l yL_sounds wsT_sounds rL_sounds (tP N0 sz sT eA (dC, dI) (tYS cI cB cO cL) (LT (dC, dI) cI cB qb qs qu qr qe qk qx qd qg qm qw kk ((b, s9, u, tr, te), g, m9, w)) [.ref (qk 0), .ref (qg 0), .ref (qm 0), .ref (qw 0), .int (nI vn), .int kn]) (upQ (dC, dI) cI cB qb qs qu qr qe qk qx qd qg qm qw kk (uA (cpT qb qs qu qr qe qk [qg 0, qm 0, qw 0]) sz)) 5 84 (uA (cpT qb qs qu qr qe qk [qg 0, qm 0, qw 0]) sz) := by
  refine tMet (cc := cL_sounds) (maxL := 16) (ws' := gT) (v0 := ((b, s9, u, tr, te), g, m9, w)) (av := [.ref (qk 0), .ref (qg 0), .ref (qm 0), .ref (qw 0), .int (nI vn), .int kn]) [(0, .ref (qk 0)), (1, .ref (qg 0)), (2, .ref (qm 0)), (3, .ref (qw 0)), (4, .int (nI vn)), (5, .int kn)] hsz hG0 (by decide) rfl rfl rfl ?_
  intro p e s m below meth c A QQ hx hb hml hown hts hK hF hC hN0 hA hN hG hI hW hend ls hl
  have hown : s.vm.findClass RL = some m.cls := hown
  obtain ⟨Cn, Rn, Mn, Wn, Nn, hD, hV, hU⟩ := hR0
  obtain ⟨hlC, hlR, hlM, hlW, hlN⟩ := hD.1.le
  have hI : OI (dC, dI) cI cB qb qs qu qr qe qk qx qd kk (b, s9, u, tr, te) s.heap := hI
  have hW : va_P (dC, dI) vwCl (arW qg qm qw cI g m9 w) s.heap := hW
  have hS : va_S A s.heap s.heap [] := va_S.rf
  refine lv_iload hx hb dL_sounds_0 (lv_at hl 4 rfl) ?_
  refine lv_sipush (v := 1300) hx hb dL_sounds_2 (by decide) ?_
  refine lv_irem hx hb dL_sounds_5 (by decide) ?_
  refine tp_i (show ((nI vn) - (nI vn) / (1300 : Int32) * (1300 : Int32)) = nI (vn % 1300) from nx_rem (a := vn) (d := 1300) (by omega) (by omega) (by omega)) ?_
  refine lv_bipush (v := 100) hx hb dL_sounds_6 (by decide) ?_
  refine lv_isub hx hb dL_sounds_8 ?_
  obtain ⟨x9, ex9, hx9⟩ := off_x (j := vn % 1300) (a := 100) (by omega) (by omega)
  refine tp_i (show ((nI (vn % 1300)) - (100 : Int32)) = x9 from ex9) ?_
  refine lv_istore (lv' := [(6, .int x9), (0, .ref (qk 0)), (1, .ref (qg 0)), (2, .ref (qm 0)), (3, .ref (qw 0)), (4, .int (nI vn)), (5, .int kn)]) hx hb dL_sounds_9 hl (by decide) rfl (fun ls hl => ?_)
  refine lv_iload hx hb dL_sounds_11 (lv_at hl 5 rfl) ?_
  refine lv_sipush (v := 1300) hx hb dL_sounds_13 (by decide) ?_
  refine lv_idiv hx hb dL_sounds_16 (by decide) ?_
  refine tp_i (show ((nI vn) / (1300 : Int32)) = nI (vn / 1300) from nx_div (a := vn) (d := 1300) (by omega) (by omega) (by omega)) ?_
  refine lv_sipush (v := 1300) hx hb dL_sounds_17 (by decide) ?_
  refine lv_irem hx hb dL_sounds_20 (by decide) ?_
  refine tp_i (show ((nI (vn / 1300)) - (nI (vn / 1300)) / (1300 : Int32) * (1300 : Int32)) = nI ((vn / 1300) % 1300) from nx_rem (a := vn / 1300) (d := 1300) (by omega) (by omega) (by omega)) ?_
  refine lv_bipush (v := 100) hx hb dL_sounds_21 (by decide) ?_
  refine lv_isub hx hb dL_sounds_23 ?_
  obtain ⟨y9, ey9, hy9⟩ := off_x (j := vn / 1300 % 1300) (a := 100) (by omega) (by omega)
  refine tp_i (show ((nI ((vn / 1300) % 1300)) - (100 : Int32)) = y9 from ey9) ?_
  refine lv_istore (lv' := [(7, .int y9), (6, .int x9), (0, .ref (qk 0)), (1, .ref (qg 0)), (2, .ref (qm 0)), (3, .ref (qw 0)), (4, .int (nI vn)), (5, .int kn)]) hx hb dL_sounds_24 hl (by decide) rfl (fun ls hl => ?_)
  refine lv_iload hx hb dL_sounds_26 (lv_at hl 6 rfl) ?_
  refine lv_ldc (v := (100001)) hx hb hown (hts (.constant RL 88 (100001)) (gTt tw577)) dL_sounds_28 ?_
  refine lv_irem hx hb dL_sounds_30 (by decide) ?_
  refine tp_i (show ((nI vn) - (nI vn) / (100001 : Int32) * (100001 : Int32)) = nI (vn % 100001) from nx_rem (a := vn) (d := 100001) (by omega) (by omega) (by omega)) ?_
  refine lv_istore (lv' := [(8, .int (nI (vn % 100001))), (7, .int y9), (6, .int x9), (0, .ref (qk 0)), (1, .ref (qg 0)), (2, .ref (qm 0)), (3, .ref (qw 0)), (4, .int (nI vn)), (5, .int kn)]) hx hb dL_sounds_31 hl (by decide) rfl (fun ls hl => ?_)
  have ht9 : rg (nI (vn % 100001)) 0 100000 := rgN (z := 100000) (by omega)
  refine lv_aload_n hx hb dL_sounds_33 rfl (lv_at hl 4 rfl) ?_
  refine lv_iconst (v := 2) hx hb dL_sounds_34 (by decide) ?_
  refine g_ialdK (D := (dC, dI)) (tys := tYS cI cB cO cL) (k := 2) hx hb hK hW 0 0 rfl rfl (by decide) (by decide) (by decide) dL_sounds_35 ?_
  refine tp_i (show (g 2) = nI Mn from hD.1.eM) ?_
  rcases Nat.eq_zero_or_pos Mn with h0 | h0
  · subst h0
    refine lv_if_ne (tgt := 78) hx hb dL_sounds_36 (by decide) (fun h => absurd rfl h) (fun _ => ?_)
    refine lv_iload hx hb dL_sounds_39 (lv_at hl 8 rfl) ?_
    have hcn := click_none hD.1 te s9 u kk hx9 hy9 ht9
    rcases hkn with hk0 | hk1
    · refine lv_if_eq (tgt := 57) hx hb dL_sounds_41 (by decide) (fun _ => ?_) (fun h => absurd hk0 h)
      refine lv_aload_n hx hb dL_sounds_57 rfl (lv_at hl 3 rfl) ?_
      refine lv_iload hx hb dL_sounds_58 (lv_at hl 2 rfl) ?_
      refine lv_iload hx hb dL_sounds_60 (lv_at hl 1 rfl) ?_
      refine lv_iload hx hb dL_sounds_62 (lv_at hl 0 rfl) ?_
      have f1 := hcn.1
      refine w_clicks (R := rL_sounds) (cells := 0) (slots := 0) (wo := arW qg qm qw cI g m9 w) hfl hx hb hml hown hts hK hF hC hN hG hA rfl hN0 hS hI hW f1.1 f1.2 (Or.inr (Or.inr rfl)) ⟨Nat.le_of_ble_eq_true rfl, Nat.le_of_ble_eq_true rfl⟩ ((-100000003)) (rfl) (Nat.le_of_ble_eq_true rfl) hl.1 dL_sounds_64 ⟨(by omega : 0 + 4 ≤ 5), (by omega : 0 + 24 ≤ 84)⟩ (fun H locs hI hW hS => ?_)
      refine lv_ldc (v := (-100000003)) hx hb hown (hts (.constant RL 95 (-100000003)) (gTt tw461)) dL_sounds_67 ?_
      refine lv_icmp_ne (tgt := 76) hx hb dL_sounds_69 (by decide) (fun h => absurd (rfl) h) (fun _ => ?_)
      refine lv_iconst (v := 1) hx hb dL_sounds_72 (by decide) ?_
      refine lv_goto (tgt := 77) hx hb dL_sounds_73 (by decide) ?_
      exact hend 77 _ _ _ _ _ (b, s9, u, tr, te) g m9 w ⟨Cn, Rn, 0, Wn, Nn, hD, hV, hU⟩ hI hW hS (by omega) (by omega) dL_sounds_77
    · refine lv_if_eq (tgt := 57) hx hb dL_sounds_41 (by decide) (fun h => absurd (hk1.symm.trans h) (by decide)) (fun _ => ?_)
      refine lv_aload_n hx hb dL_sounds_44 rfl (lv_at hl 3 rfl) ?_
      refine lv_iload hx hb dL_sounds_45 (lv_at hl 2 rfl) ?_
      refine lv_iload hx hb dL_sounds_47 (lv_at hl 1 rfl) ?_
      refine lv_iload hx hb dL_sounds_49 (lv_at hl 0 rfl) ?_
      have f2 := And.intro hcn.2.1 hcn.2.2
      refine w_knows (R := rL_sounds) (cells := 0) (slots := 0) (wo := arW qg qm qw cI g m9 w) hfl hx hb hml hown hts hK hF hC hN hG hA rfl hN0 hS hI hW f2.1 f2.2 (Or.inr (Or.inr rfl)) ⟨Nat.le_of_ble_eq_true rfl, Nat.le_of_ble_eq_true rfl⟩ ((-100000003)) (rfl) (Nat.le_of_ble_eq_true rfl) hl.1 dL_sounds_51 ⟨(by omega : 0 + 4 ≤ 5), (by omega : 0 + 24 ≤ 84)⟩ (fun H locs hI hW hS => ?_)
      refine lv_goto (tgt := 67) hx hb dL_sounds_54 (by decide) ?_
      refine lv_ldc (v := (-100000003)) hx hb hown (hts (.constant RL 95 (-100000003)) (gTt tw461)) dL_sounds_67 ?_
      refine lv_icmp_ne (tgt := 76) hx hb dL_sounds_69 (by decide) (fun h => absurd (rfl) h) (fun _ => ?_)
      refine lv_iconst (v := 1) hx hb dL_sounds_72 (by decide) ?_
      refine lv_goto (tgt := 77) hx hb dL_sounds_73 (by decide) ?_
      exact hend 77 _ _ _ _ _ (b, s9, u, tr, te) g m9 w ⟨Cn, Rn, 0, Wn, Nn, hD, hV, hU⟩ hI hW hS (by omega) (by omega) dL_sounds_77
  · refine lv_if_ne (tgt := 78) hx hb dL_sounds_36 (by decide) (fun _ => ?_) (fun h => absurd h (nI_ne0 h0 (by omega)))
    rcases hkn with hk0 | hk1
    · obtain ⟨nz, te1, b1, u1, g1, m1, hpl, hkl, hg2, hf9, hk9, hU1, hfin⟩ := click_ok hD hU te s9 kk h0 hx9 hy9 ht9
      refine lv_aload_n hx hb dL_sounds_78 rfl (lv_at hl 4 rfl) ?_
      refine lv_aload_n hx hb dL_sounds_79 rfl (lv_at hl 5 rfl) ?_
      refine lv_aload_n hx hb dL_sounds_80 rfl (lv_at hl 6 rfl) ?_
      refine lv_iload hx hb dL_sounds_81 (lv_at hl 2 rfl) ?_
      refine lv_iload hx hb dL_sounds_83 (lv_at hl 1 rfl) ?_
      refine lv_iload hx hb dL_sounds_85 (lv_at hl 0 rfl) ?_
      refine o_call (wr := []) (va_runS (As := [.ref (qg 0), .ref (qm 0), .ref (qw 0), .int x9, .int y9, .int (nI (vn % 100001))]) (rest := []) ⟨hx, hb, hml, hown, hts⟩ (mL_hears l dC dI cI cB cO cL qg qm qw g m9 w x9 y9 (nI (vn % 100001)) s.heap.size (gD_any (hG.1 6)) hkl) (va_cwS 6 hts (gT_in gQ_L_hears_96) rfl rfl rfl (by decide +kernel) ⟨Nat.le_of_ble_eq_true rfl, Nat.le_of_ble_eq_true rfl⟩) ⟨nP_blind, nP_ok hW hK⟩ rfl rfl hl.1 rfl (lv_room (Nat.le_of_ble_eq_true rfl)) dL_sounds_87 ⟨(by omega : 0 + 1 ≤ 5), (by omega : 0 + 60 ≤ 84)⟩) hI va_P_nilO (gC_all hG) (fun q h => mem_vA h) (fun q h => mem_vA h) (fun q h => (hG.1 6).2 q h) hA hS (fun r9 u9 H locs hp9 hW _ hI hS => ?_)
      obtain ⟨er9, eu9⟩ := Prod.mk.inj (hp9.trans hpl)
      have er9 := er9.symm
      subst er9
      subst eu9
      have hW : va_P (dC, dI) vwCl (arW qg qm qw cI g1 m1 w) H := hW
      refine lv_istore (lv' := [(9, .int nz), (8, .int (nI (vn % 100001))), (7, .int y9), (6, .int x9), (0, .ref (qk 0)), (1, .ref (qg 0)), (2, .ref (qm 0)), (3, .ref (qw 0)), (4, .int (nI vn)), (5, .int kn)]) hx hb dL_sounds_90 hl (by decide) rfl (fun ls hl => ?_)
      refine lv_iconst (v := 0) hx hb dL_sounds_92 (by decide) ?_
      refine lv_istore (lv' := [(10, .int 0), (9, .int nz), (8, .int (nI (vn % 100001))), (7, .int y9), (6, .int x9), (0, .ref (qk 0)), (1, .ref (qg 0)), (2, .ref (qm 0)), (3, .ref (qw 0)), (4, .int (nI vn)), (5, .int kn)]) hx hb dL_sounds_93 hl (by decide) rfl (fun ls hl => ?_)
      refine lv_iconst (v := 0) hx hb dL_sounds_95 (by decide) ?_
      refine lv_istore (lv' := [(11, .int 0), (10, .int 0), (9, .int nz), (8, .int (nI (vn % 100001))), (7, .int y9), (6, .int x9), (0, .ref (qk 0)), (1, .ref (qg 0)), (2, .ref (qm 0)), (3, .ref (qw 0)), (4, .int (nI vn)), (5, .int kn)]) hx hb dL_sounds_96 hl (by decide) rfl (fun ls hl => ?_)
      have T98 : ∀ (n : Nat) (k : Nat) (m2 : Nat → Int32) (H : Heap) (locs : List Loc) (cells slots : Nat), k + n = Mn → offI m1 m2 k → OI (dC, dI) cI cB qb qs qu qr qe qk qx qd kk (b, s9, u, tr, te) H → va_P (dC, dI) vwCl (arW qg qm qw cI g1 m2 w) H → va_S A s.heap H locs → ∀ ls : Array Slot, lv_has ls 16 [(11, .int (nI k)), (0, .ref (qk 0)), (1, .ref (qg 0)), (2, .ref (qm 0)), (3, .ref (qw 0)), (5, .int kn), (6, .int x9), (7, .int y9), (8, .int (nI (vn % 100001))), (9, .int nz)] → cells + (4) ≤ 5 → slots + (24) ≤ 84 → W p l e rL_sounds s m ([.ref (qk 0), .ref (qg 0), .ref (qm 0), .ref (qw 0), .int (nI vn), .int kn] : List Value).toArray below meth c H locs (cells) (slots) QQ (F0 m 98 ls []) := by
        intro n
        induction n with
        | zero =>
          intro k m2 H locs cells slots hk hdn hI hW hS ls hl hcc hss
          have hk : Mn = k := by omega
          refine lv_iload hx hb dL_sounds_98 (lv_at hl 0 rfl) ?_
          refine lv_aload_n hx hb dL_sounds_100 rfl (lv_at hl 2 rfl) ?_
          refine lv_iconst (v := 2) hx hb dL_sounds_101 (by decide) ?_
          refine g_ialdK (D := (dC, dI)) (tys := tYS cI cB cO cL) (k := 2) hx hb hK hW 0 0 rfl rfl (by decide) (by decide) (by decide) dL_sounds_102 ?_
          refine tp_i (show (g1 2) = nI Mn from hg2.trans hD.1.eM) ?_
          refine lv_icmp_ge (tgt := 237) hx hb dL_sounds_103 (by decide) (fun _ => ?_) (fun h => absurd (nI_le (a := Mn) (b := k) (by omega) (by omega)) h)
          refine lv_iload hx hb dL_sounds_237 (lv_at hl 5 rfl) ?_
          refine lv_if_eq (tgt := 265) hx hb dL_sounds_239 (by decide) (fun _ => ?_) (fun h => absurd hk0 h)
          refine lv_aload_n hx hb dL_sounds_265 rfl (lv_at hl 1 rfl) ?_
          refine lv_iload hx hb dL_sounds_266 (lv_at hl 6 rfl) ?_
          refine lv_iload hx hb dL_sounds_268 (lv_at hl 7 rfl) ?_
          refine lv_iload hx hb dL_sounds_270 (lv_at hl 8 rfl) ?_
          have f3 := And.intro hf9 hk9
          refine w_clicks (R := rL_sounds) (cells := cells) (slots := slots) (wo := arW qg qm qw cI g1 m2 w) hfl hx hb hml hown hts hK hF hC hN hG hA rfl hN0 hS hI hW f3.1 f3.2 (Or.inl rfl) ⟨Nat.le_of_ble_eq_true rfl, Nat.le_of_ble_eq_true rfl⟩ (nz) (rfl) (Nat.le_of_ble_eq_true rfl) hl.1 dL_sounds_272 ⟨(by omega : cells + 4 ≤ 5), (by omega : slots + 24 ≤ 84)⟩ (fun H locs hI hW hS => ?_)
          refine lv_iload hx hb dL_sounds_275 (lv_at hl 9 rfl) ?_
          refine lv_icmp_ne (tgt := 284) hx hb dL_sounds_277 (by decide) (fun h => absurd (rfl) h) (fun _ => ?_)
          refine lv_iconst (v := 1) hx hb dL_sounds_280 (by decide) ?_
          refine lv_goto (tgt := 285) hx hb dL_sounds_281 (by decide) ?_
          exact hend 285 _ _ _ _ _ (b1, (pX8_outdate s9), u1, tr, te1) g1 m2 w ⟨Cn, Rn, Mn, Wn, Nn, hfin m2 (hk ▸ hdn.1), SVI_old Mn m2 s9, hU1⟩ hI hW hS (by omega) (by omega) dL_sounds_285
        | succ n ih =>
          intro k m2 H locs cells slots hk hdn hI hW hS ls hl hcc hss
          refine lv_iload hx hb dL_sounds_98 (lv_at hl 0 rfl) ?_
          refine lv_aload_n hx hb dL_sounds_100 rfl (lv_at hl 2 rfl) ?_
          refine lv_iconst (v := 2) hx hb dL_sounds_101 (by decide) ?_
          refine g_ialdK (D := (dC, dI)) (tys := tYS cI cB cO cL) (k := 2) hx hb hK hW 0 0 rfl rfl (by decide) (by decide) (by decide) dL_sounds_102 ?_
          refine tp_i (show (g1 2) = nI Mn from hg2.trans hD.1.eM) ?_
          refine lv_icmp_ge (tgt := 237) hx hb dL_sounds_103 (by decide) (fun h => absurd h (nI_ge (a := k) (b := Mn) (by omega) (by omega))) (fun _ => ?_)
          refine lv_bipush (v := 10) hx hb dL_sounds_106 (by decide) ?_
          refine lv_iload hx hb dL_sounds_108 (lv_at hl 0 rfl) ?_
          refine lv_imul hx hb dL_sounds_110 ?_
          refine tp_i (show ((10 : Int32) * (nI k)) = nI (10 * k) from pk_mul 10 k) ?_
          refine lv_istore (lv' := [(12, .int (nI (10 * k))), (11, .int (nI k)), (0, .ref (qk 0)), (1, .ref (qg 0)), (2, .ref (qm 0)), (3, .ref (qw 0)), (5, .int kn), (6, .int x9), (7, .int y9), (8, .int (nI (vn % 100001))), (9, .int nz)]) hx hb dL_sounds_111 hl (by decide) rfl (fun ls hl => ?_)
          refine lv_iload hx hb dL_sounds_113 (lv_at hl 6 rfl) ?_
          refine lv_if_eq (tgt := 216) hx hb dL_sounds_115 (by decide) (fun _ => ?_) (fun h => absurd hk0 h)
          refine lv_aload_n hx hb dL_sounds_216 rfl (lv_at hl 4 rfl) ?_
          refine lv_iload hx hb dL_sounds_217 (lv_at hl 0 rfl) ?_
          refine lv_iconst (v := 5) hx hb dL_sounds_219 (by decide) ?_
          refine lv_iadd hx hb dL_sounds_220 ?_
          refine tp_i (show ((nI (10 * k)) + (5 : Int32)) = nI (10 * k + 5) from nI_add (10 * k) 5) ?_
          refine lv_dup2_11 hx hb dL_sounds_221 rfl rfl ?_
          refine g_ialdK (D := (dC, dI)) (tys := tYS cI cB cO cL) (k := 10 * k + 5) hx hb hK hW 1 0 rfl rfl (nI_clamp (by omega)) (nI_pos (by omega)) (by omega) dL_sounds_222 ?_
          refine lv_aload_n hx hb dL_sounds_223 rfl (lv_at hl 4 rfl) ?_
          refine lv_iload hx hb dL_sounds_224 (lv_at hl 0 rfl) ?_
          refine lv_iconst (v := 3) hx hb dL_sounds_226 (by decide) ?_
          refine lv_iadd hx hb dL_sounds_227 ?_
          refine tp_i (show ((nI (10 * k)) + (3 : Int32)) = nI (10 * k + 3) from nI_add (10 * k) 3) ?_
          refine g_ialdK (D := (dC, dI)) (tys := tYS cI cB cO cL) (k := 10 * k + 3) hx hb hK hW 1 0 rfl rfl (nI_clamp (by omega)) (nI_pos (by omega)) (by omega) dL_sounds_228 ?_
          refine lv_isub hx hb dL_sounds_229 ?_
          refine o_iast (D := (dC, dI)) (tys := tYS cI cB cO cL) (k := 10 * k + 5) hx hb hK hG hI hW hS rfl 1 0 rfl rfl (nI_clamp (by omega)) (nI_pos (by omega)) (by omega) dL_sounds_230 (fun H locs hI hW hS => ?_)
          obtain ⟨m3, e_m3⟩ : ∃ z9 : Nat → Int32, z9 = upd m2 (10 * k + 5) ((m2 (10 * k + 5)) - (m2 (10 * k + 3))) := ⟨_, rfl⟩
          have hW : va_P (dC, dI) vwCl (arW qg qm qw cI g1 m3 w) H := by rw [e_m3]; exact hW
          refine lv_iinc (v := (nI (k + 1))) (lv' := [(11, .int (nI (k + 1))), (12, .int (nI (10 * k))), (0, .ref (qk 0)), (1, .ref (qg 0)), (2, .ref (qm 0)), (3, .ref (qw 0)), (5, .int kn), (6, .int x9), (7, .int y9), (8, .int (nI (vn % 100001))), (9, .int nz)]) hx hb dL_sounds_231 hl (k := 1) rfl (nI_add (k) 1) (by decide) rfl (fun ls hl => ?_)
          refine lv_goto (tgt := 98) hx hb dL_sounds_234 (by decide) ?_
          exact ih (k + 1) m3 _ _ _ _ (by omega) (offI_s hdn e_m3) hI hW hS _ (lv_sub hl [0, 2, 3, 4, 5, 6, 7, 8, 9, 10] rfl) (by omega) (by omega)
      exact T98 Mn 0 m1 _ _ _ _ (by omega) (offI_0 m1) hI hW hS _ (lv_sub hl [0, 6, 7, 8, 9, 11, 5, 4, 3, 2] rfl) (by omega) (by omega)
    · obtain ⟨nz, te1, b1, u1, g1, m1, hpl, hkl, hg2, hm1, hg7, hf9, hk9, hU1, hfin⟩ := known_ok hD hU te s9 kk h0 hx9 hy9 ht9
      refine lv_aload_n hx hb dL_sounds_78 rfl (lv_at hl 4 rfl) ?_
      refine lv_aload_n hx hb dL_sounds_79 rfl (lv_at hl 5 rfl) ?_
      refine lv_aload_n hx hb dL_sounds_80 rfl (lv_at hl 6 rfl) ?_
      refine lv_iload hx hb dL_sounds_81 (lv_at hl 2 rfl) ?_
      refine lv_iload hx hb dL_sounds_83 (lv_at hl 1 rfl) ?_
      refine lv_iload hx hb dL_sounds_85 (lv_at hl 0 rfl) ?_
      refine o_call (wr := []) (va_runS (As := [.ref (qg 0), .ref (qm 0), .ref (qw 0), .int x9, .int y9, .int (nI (vn % 100001))]) (rest := []) ⟨hx, hb, hml, hown, hts⟩ (mL_hears l dC dI cI cB cO cL qg qm qw g m9 w x9 y9 (nI (vn % 100001)) s.heap.size (gD_any (hG.1 6)) hkl) (va_cwS 6 hts (gT_in gQ_L_hears_96) rfl rfl rfl (by decide +kernel) ⟨Nat.le_of_ble_eq_true rfl, Nat.le_of_ble_eq_true rfl⟩) ⟨nP_blind, nP_ok hW hK⟩ rfl rfl hl.1 rfl (lv_room (Nat.le_of_ble_eq_true rfl)) dL_sounds_87 ⟨(by omega : 0 + 1 ≤ 5), (by omega : 0 + 60 ≤ 84)⟩) hI va_P_nilO (gC_all hG) (fun q h => mem_vA h) (fun q h => mem_vA h) (fun q h => (hG.1 6).2 q h) hA hS (fun r9 u9 H locs hp9 hW _ hI hS => ?_)
      obtain ⟨er9, eu9⟩ := Prod.mk.inj (hp9.trans hpl)
      have er9 := er9.symm
      subst er9
      subst eu9
      have hW : va_P (dC, dI) vwCl (arW qg qm qw cI g1 m1 w) H := hW
      refine lv_istore (lv' := [(9, .int nz), (8, .int (nI (vn % 100001))), (7, .int y9), (6, .int x9), (0, .ref (qk 0)), (1, .ref (qg 0)), (2, .ref (qm 0)), (3, .ref (qw 0)), (4, .int (nI vn)), (5, .int kn)]) hx hb dL_sounds_90 hl (by decide) rfl (fun ls hl => ?_)
      refine lv_iconst (v := 0) hx hb dL_sounds_92 (by decide) ?_
      refine lv_istore (lv' := [(10, .int 0), (9, .int nz), (8, .int (nI (vn % 100001))), (7, .int y9), (6, .int x9), (0, .ref (qk 0)), (1, .ref (qg 0)), (2, .ref (qm 0)), (3, .ref (qw 0)), (4, .int (nI vn)), (5, .int kn)]) hx hb dL_sounds_93 hl (by decide) rfl (fun ls hl => ?_)
      refine lv_iconst (v := 0) hx hb dL_sounds_95 (by decide) ?_
      refine lv_istore (lv' := [(11, .int 0), (10, .int 0), (9, .int nz), (8, .int (nI (vn % 100001))), (7, .int y9), (6, .int x9), (0, .ref (qk 0)), (1, .ref (qg 0)), (2, .ref (qm 0)), (3, .ref (qw 0)), (4, .int (nI vn)), (5, .int kn)]) hx hb dL_sounds_96 hl (by decide) rfl (fun ls hl => ?_)
      have T98 : ∀ (n : Nat) (k : Nat) (m2 : Nat → Int32) (z0 : Int32) (H : Heap) (locs : List Loc) (cells slots : Nat), k + n = Mn → setI g1 m1 x9 y9 (nI (vn % 100001)) m2 k → cntT (chgK g1 m1 x9 y9 (nI (vn % 100001))) n k z0 = cntT (chgK g1 m1 x9 y9 (nI (vn % 100001))) Mn 0 0 → OI (dC, dI) cI cB qb qs qu qr qe qk qx qd kk (b, s9, u, tr, te) H → va_P (dC, dI) vwCl (arW qg qm qw cI g1 m2 w) H → va_S A s.heap H locs → ∀ ls : Array Slot, lv_has ls 16 [(11, .int (nI k)), (10, .int z0), (0, .ref (qk 0)), (1, .ref (qg 0)), (2, .ref (qm 0)), (3, .ref (qw 0)), (5, .int kn), (6, .int x9), (7, .int y9), (8, .int (nI (vn % 100001))), (9, .int nz)] → cells + (4) ≤ 5 → slots + (24) ≤ 84 → W p l e rL_sounds s m ([.ref (qk 0), .ref (qg 0), .ref (qm 0), .ref (qw 0), .int (nI vn), .int kn] : List Value).toArray below meth c H locs (cells) (slots) QQ (F0 m 98 ls []) := by
        intro n
        induction n with
        | zero =>
          intro k m2 z0 H locs cells slots hk hdn hz hI hW hS ls hl hcc hss
          have hk : Mn = k := by omega
          have hz : z0 = cntT (chgK g1 m1 x9 y9 (nI (vn % 100001))) Mn 0 0 := hz
          refine lv_iload hx hb dL_sounds_98 (lv_at hl 0 rfl) ?_
          refine lv_aload_n hx hb dL_sounds_100 rfl (lv_at hl 3 rfl) ?_
          refine lv_iconst (v := 2) hx hb dL_sounds_101 (by decide) ?_
          refine g_ialdK (D := (dC, dI)) (tys := tYS cI cB cO cL) (k := 2) hx hb hK hW 0 0 rfl rfl (by decide) (by decide) (by decide) dL_sounds_102 ?_
          refine tp_i (show (g1 2) = nI Mn from hg2.trans hD.1.eM) ?_
          refine lv_icmp_ge (tgt := 237) hx hb dL_sounds_103 (by decide) (fun _ => ?_) (fun h => absurd (nI_le (a := Mn) (b := k) (by omega) (by omega)) h)
          refine lv_iload hx hb dL_sounds_237 (lv_at hl 6 rfl) ?_
          refine lv_if_eq (tgt := 265) hx hb dL_sounds_239 (by decide) (fun h => absurd (hk1.symm.trans h) (by decide)) (fun _ => ?_)
          refine lv_aload_n hx hb dL_sounds_242 rfl (lv_at hl 2 rfl) ?_
          refine lv_iload hx hb dL_sounds_243 (lv_at hl 7 rfl) ?_
          refine lv_iload hx hb dL_sounds_245 (lv_at hl 8 rfl) ?_
          refine lv_iload hx hb dL_sounds_247 (lv_at hl 9 rfl) ?_
          have f4 := And.intro hf9 hk9
          refine w_knows (R := rL_sounds) (cells := cells) (slots := slots) (wo := arW qg qm qw cI g1 m2 w) hfl hx hb hml hown hts hK hF hC hN hG hA rfl hN0 hS hI hW f4.1 f4.2 (Or.inl rfl) ⟨Nat.le_of_ble_eq_true rfl, Nat.le_of_ble_eq_true rfl⟩ ((cntT (chgK g1 m1 x9 y9 (nI (vn % 100001))) Mn 0 0)) (rfl) (Nat.le_of_ble_eq_true rfl) hl.1 dL_sounds_249 ⟨(by omega : cells + 4 ≤ 5), (by omega : slots + 24 ≤ 84)⟩ (fun H locs hI hW hS => ?_)
          refine lv_iload hx hb dL_sounds_252 (lv_at hl 1 rfl) ?_
          refine lv_icmp_ne (tgt := 261) hx hb dL_sounds_254 (by decide) (fun h => absurd (hz.symm) h) (fun _ => ?_)
          refine lv_iconst (v := 1) hx hb dL_sounds_257 (by decide) ?_
          refine lv_goto (tgt := 285) hx hb dL_sounds_258 (by decide) ?_
          exact hend 285 _ _ _ _ _ (b1, (pX8_outdate s9), u1, tr, te1) g1 m2 w ⟨Cn, Rn, Mn, Wn, Nn, hfin m2 (hk ▸ hdn.1), SVI_old Mn m2 s9, hU1⟩ hI hW hS (by omega) (by omega) dL_sounds_285
        | succ n ih =>
          intro k m2 z0 H locs cells slots hk hdn hz hI hW hS ls hl hcc hss
          have hkM : k < Mn := by omega
          refine lv_iload hx hb dL_sounds_98 (lv_at hl 0 rfl) ?_
          refine lv_aload_n hx hb dL_sounds_100 rfl (lv_at hl 3 rfl) ?_
          refine lv_iconst (v := 2) hx hb dL_sounds_101 (by decide) ?_
          refine g_ialdK (D := (dC, dI)) (tys := tYS cI cB cO cL) (k := 2) hx hb hK hW 0 0 rfl rfl (by decide) (by decide) (by decide) dL_sounds_102 ?_
          refine tp_i (show (g1 2) = nI Mn from hg2.trans hD.1.eM) ?_
          refine lv_icmp_ge (tgt := 237) hx hb dL_sounds_103 (by decide) (fun h => absurd h (nI_ge (a := k) (b := Mn) (by omega) (by omega))) (fun _ => ?_)
          refine lv_bipush (v := 10) hx hb dL_sounds_106 (by decide) ?_
          refine lv_iload hx hb dL_sounds_108 (lv_at hl 0 rfl) ?_
          refine lv_imul hx hb dL_sounds_110 ?_
          refine tp_i (show ((10 : Int32) * (nI k)) = nI (10 * k) from pk_mul 10 k) ?_
          refine lv_istore (lv' := [(12, .int (nI (10 * k))), (11, .int (nI k)), (10, .int z0), (0, .ref (qk 0)), (1, .ref (qg 0)), (2, .ref (qm 0)), (3, .ref (qw 0)), (5, .int kn), (6, .int x9), (7, .int y9), (8, .int (nI (vn % 100001))), (9, .int nz)]) hx hb dL_sounds_111 hl (by decide) rfl (fun ls hl => ?_)
          refine lv_iload hx hb dL_sounds_113 (lv_at hl 7 rfl) ?_
          refine lv_if_eq (tgt := 216) hx hb dL_sounds_115 (by decide) (fun h => absurd (hk1.symm.trans h) (by decide)) (fun _ => ?_)
          refine lv_iload hx hb dL_sounds_118 (lv_at hl 8 rfl) ?_
          refine lv_aload_n hx hb dL_sounds_120 rfl (lv_at hl 5 rfl) ?_
          refine lv_iload hx hb dL_sounds_121 (lv_at hl 0 rfl) ?_
          refine g_ialdK (D := (dC, dI)) (tys := tYS cI cB cO cL) (k := 10 * k) hx hb hK hW 1 0 rfl rfl (nI_clamp (by omega)) (nI_pos (by omega)) (by omega) dL_sounds_123 ?_
          refine tp_i (show (m2 (10 * k)) = (m1 (10 * k + 0)) from hdn.2 (10 * k) (by omega)) ?_
          refine lv_isub hx hb dL_sounds_124 ?_
          refine lv_istore (lv' := [(13, .int (x9 - (m1 (10 * k + 0)))), (12, .int (nI (10 * k))), (11, .int (nI k)), (10, .int z0), (0, .ref (qk 0)), (1, .ref (qg 0)), (2, .ref (qm 0)), (3, .ref (qw 0)), (5, .int kn), (6, .int x9), (7, .int y9), (8, .int (nI (vn % 100001))), (9, .int nz)]) hx hb dL_sounds_125 hl (by decide) rfl (fun ls hl => ?_)
          refine lv_iload hx hb dL_sounds_127 (lv_at hl 10 rfl) ?_
          refine lv_aload_n hx hb dL_sounds_129 rfl (lv_at hl 6 rfl) ?_
          refine lv_iload hx hb dL_sounds_130 (lv_at hl 1 rfl) ?_
          refine lv_iconst (v := 1) hx hb dL_sounds_132 (by decide) ?_
          refine lv_iadd hx hb dL_sounds_133 ?_
          refine tp_i (show ((nI (10 * k)) + (1 : Int32)) = nI (10 * k + 1) from nI_add (10 * k) 1) ?_
          refine g_ialdK (D := (dC, dI)) (tys := tYS cI cB cO cL) (k := 10 * k + 1) hx hb hK hW 1 0 rfl rfl (nI_clamp (by omega)) (nI_pos (by omega)) (by omega) dL_sounds_134 ?_
          refine tp_i (show (m2 (10 * k + 1)) = (m1 (10 * k + 1)) from hdn.2 (10 * k + 1) (by omega)) ?_
          refine lv_isub hx hb dL_sounds_135 ?_
          refine lv_istore (lv' := [(14, .int (y9 - (m1 (10 * k + 1)))), (13, .int (x9 - (m1 (10 * k + 0)))), (12, .int (nI (10 * k))), (11, .int (nI k)), (10, .int z0), (0, .ref (qk 0)), (1, .ref (qg 0)), (2, .ref (qm 0)), (3, .ref (qw 0)), (5, .int kn), (6, .int x9), (7, .int y9), (8, .int (nI (vn % 100001))), (9, .int nz)]) hx hb dL_sounds_136 hl (by decide) rfl (fun ls hl => ?_)
          refine lv_aload_n hx hb dL_sounds_138 rfl (lv_at hl 7 rfl) ?_
          refine lv_iload hx hb dL_sounds_139 (lv_at hl 2 rfl) ?_
          refine lv_iconst (v := 4) hx hb dL_sounds_141 (by decide) ?_
          refine lv_iadd hx hb dL_sounds_142 ?_
          refine tp_i (show ((nI (10 * k)) + (4 : Int32)) = nI (10 * k + 4) from nI_add (10 * k) 4) ?_
          refine g_ialdK (D := (dC, dI)) (tys := tYS cI cB cO cL) (k := 10 * k + 4) hx hb hK hW 1 0 rfl rfl (nI_clamp (by omega)) (nI_pos (by omega)) (by omega) dL_sounds_143 ?_
          refine tp_i (show (m2 (10 * k + 4)) = (m1 (10 * k + 4)) from hdn.2 (10 * k + 4) (by omega)) ?_
          refine lv_iconst (v := 1) hx hb dL_sounds_144 (by decide) ?_
          have J185 : ∀ ls : Array Slot, lv_has ls 16 [(14, .int (y9 - (m1 (10 * k + 1)))), (13, .int (x9 - (m1 (10 * k + 0)))), (12, .int (nI (10 * k))), (11, .int (nI k)), (10, .int z0), (0, .ref (qk 0)), (1, .ref (qg 0)), (2, .ref (qm 0)), (3, .ref (qw 0)), (5, .int kn), (6, .int x9), (7, .int y9), (8, .int (nI (vn % 100001))), (9, .int nz)] → W p l e rL_sounds s m ([.ref (qk 0), .ref (qg 0), .ref (qm 0), .ref (qw 0), .int (nI vn), .int kn] : List Value).toArray below meth c H locs (cells) (slots) QQ (F0 m 185 ls [.int (offK g1 m1 x9 y9 (nI (vn % 100001)) k)]) := by
            intro ls hl
            refine lv_istore (lv' := [(15, .int (offK g1 m1 x9 y9 (nI (vn % 100001)) k)), (14, .int (y9 - (m1 (10 * k + 1)))), (13, .int (x9 - (m1 (10 * k + 0)))), (12, .int (nI (10 * k))), (11, .int (nI k)), (10, .int z0), (0, .ref (qk 0)), (1, .ref (qg 0)), (2, .ref (qm 0)), (3, .ref (qw 0)), (5, .int kn), (6, .int x9), (7, .int y9), (8, .int (nI (vn % 100001))), (9, .int nz)]) hx hb dL_sounds_185 hl (by decide) rfl (fun ls hl => ?_)
            have J205 : ∀ ls : Array Slot, lv_has ls 16 [(15, .int (offK g1 m1 x9 y9 (nI (vn % 100001)) k)), (14, .int (y9 - (m1 (10 * k + 1)))), (13, .int (x9 - (m1 (10 * k + 0)))), (12, .int (nI (10 * k))), (11, .int (nI k)), (10, .int z0), (0, .ref (qk 0)), (1, .ref (qg 0)), (2, .ref (qm 0)), (3, .ref (qw 0)), (5, .int kn), (6, .int x9), (7, .int y9), (8, .int (nI (vn % 100001))), (9, .int nz)] → W p l e rL_sounds s m ([.ref (qk 0), .ref (qg 0), .ref (qm 0), .ref (qw 0), .int (nI vn), .int kn] : List Value).toArray below meth c H locs (cells) (slots) QQ (F0 m 205 ls [.int (bz ((chgK g1 m1 x9 y9 (nI (vn % 100001))) k)), .int z0]) := by
              intro ls hl
              refine lv_iadd hx hb dL_sounds_205 ?_
              refine lv_istore (lv' := [(10, .int (z0 + (bz ((chgK g1 m1 x9 y9 (nI (vn % 100001))) k)))), (15, .int (offK g1 m1 x9 y9 (nI (vn % 100001)) k)), (14, .int (y9 - (m1 (10 * k + 1)))), (13, .int (x9 - (m1 (10 * k + 0)))), (12, .int (nI (10 * k))), (11, .int (nI k)), (0, .ref (qk 0)), (1, .ref (qg 0)), (2, .ref (qm 0)), (3, .ref (qw 0)), (5, .int kn), (6, .int x9), (7, .int y9), (8, .int (nI (vn % 100001))), (9, .int nz)]) hx hb dL_sounds_206 hl (by decide) rfl (fun ls hl => ?_)
              refine lv_aload_n hx hb dL_sounds_208 rfl (lv_at hl 8 rfl) ?_
              refine lv_iload hx hb dL_sounds_209 (lv_at hl 4 rfl) ?_
              refine lv_iconst (v := 3) hx hb dL_sounds_211 (by decide) ?_
              refine lv_iadd hx hb dL_sounds_212 ?_
              refine tp_i (show ((nI (10 * k)) + (3 : Int32)) = nI (10 * k + 3) from nI_add (10 * k) 3) ?_
              refine lv_iload hx hb dL_sounds_213 (lv_at hl 1 rfl) ?_
              refine o_iast (D := (dC, dI)) (tys := tYS cI cB cO cL) (k := 10 * k + 3) hx hb hK hG hI hW hS rfl 1 0 rfl rfl (nI_clamp (by omega)) (nI_pos (by omega)) (by omega) dL_sounds_215 (fun H locs hI hW hS => ?_)
              obtain ⟨m3, e_m3⟩ : ∃ z9 : Nat → Int32, z9 = upd m2 (10 * k + 3) (offK g1 m1 x9 y9 (nI (vn % 100001)) k) := ⟨_, rfl⟩
              have hW : va_P (dC, dI) vwCl (arW qg qm qw cI g1 m3 w) H := by rw [e_m3]; exact hW
              refine lv_aload_n hx hb dL_sounds_216 rfl (lv_at hl 8 rfl) ?_
              refine lv_iload hx hb dL_sounds_217 (lv_at hl 4 rfl) ?_
              refine lv_iconst (v := 5) hx hb dL_sounds_219 (by decide) ?_
              refine lv_iadd hx hb dL_sounds_220 ?_
              refine tp_i (show ((nI (10 * k)) + (5 : Int32)) = nI (10 * k + 5) from nI_add (10 * k) 5) ?_
              refine lv_dup2_11 hx hb dL_sounds_221 rfl rfl ?_
              refine g_ialdK (D := (dC, dI)) (tys := tYS cI cB cO cL) (k := 10 * k + 5) hx hb hK hW 1 0 rfl rfl (nI_clamp (by omega)) (nI_pos (by omega)) (by omega) dL_sounds_222 ?_
              refine lv_aload_n hx hb dL_sounds_223 rfl (lv_at hl 8 rfl) ?_
              refine lv_iload hx hb dL_sounds_224 (lv_at hl 4 rfl) ?_
              refine lv_iconst (v := 3) hx hb dL_sounds_226 (by decide) ?_
              refine lv_iadd hx hb dL_sounds_227 ?_
              refine tp_i (show ((nI (10 * k)) + (3 : Int32)) = nI (10 * k + 3) from nI_add (10 * k) 3) ?_
              refine g_ialdK (D := (dC, dI)) (tys := tYS cI cB cO cL) (k := 10 * k + 3) hx hb hK hW 1 0 rfl rfl (nI_clamp (by omega)) (nI_pos (by omega)) (by omega) dL_sounds_228 ?_
              refine lv_isub hx hb dL_sounds_229 ?_
              refine o_iast (D := (dC, dI)) (tys := tYS cI cB cO cL) (k := 10 * k + 5) hx hb hK hG hI hW hS rfl 1 0 rfl rfl (nI_clamp (by omega)) (nI_pos (by omega)) (by omega) dL_sounds_230 (fun H locs hI hW hS => ?_)
              obtain ⟨m4, e_m4⟩ : ∃ z9 : Nat → Int32, z9 = upd m3 (10 * k + 5) ((m3 (10 * k + 5)) - (m3 (10 * k + 3))) := ⟨_, rfl⟩
              have hW : va_P (dC, dI) vwCl (arW qg qm qw cI g1 m4 w) H := by rw [e_m4]; exact hW
              refine lv_iinc (v := (nI (k + 1))) (lv' := [(11, .int (nI (k + 1))), (10, .int (z0 + (bz ((chgK g1 m1 x9 y9 (nI (vn % 100001))) k)))), (15, .int (offK g1 m1 x9 y9 (nI (vn % 100001)) k)), (14, .int (y9 - (m1 (10 * k + 1)))), (13, .int (x9 - (m1 (10 * k + 0)))), (12, .int (nI (10 * k))), (0, .ref (qk 0)), (1, .ref (qg 0)), (2, .ref (qm 0)), (3, .ref (qw 0)), (5, .int kn), (6, .int x9), (7, .int y9), (8, .int (nI (vn % 100001))), (9, .int nz)]) hx hb dL_sounds_231 hl (k := 5) rfl (nI_add (k) 1) (by decide) rfl (fun ls hl => ?_)
              refine lv_goto (tgt := 98) hx hb dL_sounds_234 (by decide) ?_
              exact ih (k + 1) m4 (z0 + bz ((chgK g1 m1 x9 y9 (nI (vn % 100001))) k)) _ _ _ _ (by omega) (setI_s hdn e_m3 e_m4) hz hI hW hS _ (lv_sub hl [0, 1, 6, 7, 8, 9, 10, 11, 12, 13, 14] rfl) (by omega) (by omega)
            refine lv_iload hx hb dL_sounds_187 (lv_at hl 5 rfl) ?_
            refine lv_iload hx hb dL_sounds_189 (lv_at hl 0 rfl) ?_
            refine lv_aload_n hx hb dL_sounds_191 rfl (lv_at hl 8 rfl) ?_
            refine lv_iload hx hb dL_sounds_192 (lv_at hl 3 rfl) ?_
            refine lv_iconst (v := 3) hx hb dL_sounds_194 (by decide) ?_
            refine lv_iadd hx hb dL_sounds_195 ?_
            refine tp_i (show ((nI (10 * k)) + (3 : Int32)) = nI (10 * k + 3) from nI_add (10 * k) 3) ?_
            refine g_ialdK (D := (dC, dI)) (tys := tYS cI cB cO cL) (k := 10 * k + 3) hx hb hK hW 1 0 rfl rfl (nI_clamp (by omega)) (nI_pos (by omega)) (by omega) dL_sounds_196 ?_
            refine tp_i (show (m2 (10 * k + 3)) = (m1 (10 * k + 3)) from hdn.2 (10 * k + 3) (by omega)) ?_
            refine lv_icmp_ne (tgt := 204) hx hb dL_sounds_197 (by decide) (fun hh => ?_) (fun hh => ?_)
            · refine lv_iconst (v := 1) hx hb dL_sounds_204 (by decide) ?_
              refine tp_i (show (1 : Int32) = (bz ((chgK g1 m1 x9 y9 (nI (vn % 100001))) k)) from (chgK_y hh).symm) ?_
              exact J205 _ (lv_sub hl [0, 1, 2, 3, 4, 5, 6, 7, 8, 9, 10, 11, 12, 13, 14] rfl)
            · refine lv_iconst (v := 0) hx hb dL_sounds_200 (by decide) ?_
              refine lv_goto (tgt := 205) hx hb dL_sounds_201 (by decide) ?_
              refine tp_i (show (0 : Int32) = (bz ((chgK g1 m1 x9 y9 (nI (vn % 100001))) k)) from (chgK_n hh).symm) ?_
              exact J205 _ (lv_sub hl [0, 1, 2, 3, 4, 5, 6, 7, 8, 9, 10, 11, 12, 13, 14] rfl)
          refine lv_icmp_ne (tgt := 184) hx hb dL_sounds_145 (by decide) (fun hh => ?_) (fun hh => ?_)
          · refine lv_iconst (v := 0) hx hb dL_sounds_184 (by decide) ?_
            refine tp_i (show (0 : Int32) = (offK g1 m1 x9 y9 (nI (vn % 100001)) k) from (offK_n hh).symm) ?_
            exact J185 _ (lv_sub hl [0, 1, 2, 3, 4, 5, 6, 7, 8, 9, 10, 11, 12, 13] rfl)
          · refine lv_aload_n hx hb dL_sounds_148 rfl (lv_at hl 7 rfl) ?_
            refine lv_iload hx hb dL_sounds_149 (lv_at hl 2 rfl) ?_
            refine lv_iconst (v := 5) hx hb dL_sounds_151 (by decide) ?_
            refine lv_iadd hx hb dL_sounds_152 ?_
            refine tp_i (show ((nI (10 * k)) + (5 : Int32)) = nI (10 * k + 5) from nI_add (10 * k) 5) ?_
            refine g_ialdK (D := (dC, dI)) (tys := tYS cI cB cO cL) (k := 10 * k + 5) hx hb hK hW 1 0 rfl rfl (nI_clamp (by omega)) (nI_pos (by omega)) (by omega) dL_sounds_153 ?_
            refine tp_i (show (m2 (10 * k + 5)) = (m1 (10 * k + 5)) from hdn.2 (10 * k + 5) (by omega)) ?_
            refine lv_iload hx hb dL_sounds_154 (lv_at hl 12 rfl) ?_
            refine lv_isub hx hb dL_sounds_156 ?_
            refine lv_iload hx hb dL_sounds_157 (lv_at hl 1 rfl) ?_
            refine lv_iload hx hb dL_sounds_159 (lv_at hl 1 rfl) ?_
            refine lv_imul hx hb dL_sounds_161 ?_
            refine lv_iload hx hb dL_sounds_162 (lv_at hl 0 rfl) ?_
            refine lv_iload hx hb dL_sounds_164 (lv_at hl 0 rfl) ?_
            refine lv_imul hx hb dL_sounds_166 ?_
            refine lv_iadd hx hb dL_sounds_167 ?_
            refine gro_i (va_runS (As := [.int (((x9 - (m1 (10 * k + 0))) * (x9 - (m1 (10 * k + 0)))) + ((y9 - (m1 (10 * k + 1))) * (y9 - (m1 (10 * k + 1)))))]) (rest := [.int ((m1 (10 * k + 5)) - (nI (vn % 100001)))]) ⟨hx, hb, hml, hown, hts⟩ (mL_root l dC dI cI cB cO cL (((x9 - (m1 (10 * k + 0))) * (x9 - (m1 (10 * k + 0)))) + ((y9 - (m1 (10 * k + 1))) * (y9 - (m1 (10 * k + 1))))) (hm1 k hkM).2) (va_cwS 1 hts (gT_in gQ_L_root_18) rfl rfl rfl (by decide +kernel) ⟨Nat.le_of_ble_eq_true rfl, Nat.le_of_ble_eq_true rfl⟩) ⟨gP_blind, gP_ok va_P_nil hK⟩ rfl rfl hl.1 rfl (lv_room (Nat.le_of_ble_eq_true rfl)) dL_sounds_168 ⟨(by omega : cells + 0 ≤ 5), (by omega : slots + 0 ≤ 84)⟩) ?_
            refine lv_sipush (v := 1000) hx hb dL_sounds_171 (by decide) ?_
            refine lv_imul hx hb dL_sounds_174 ?_
            refine lv_aload_n hx hb dL_sounds_175 rfl (lv_at hl 6 rfl) ?_
            refine lv_bipush (v := 7) hx hb dL_sounds_176 (by decide) ?_
            refine g_ialdK (D := (dC, dI)) (tys := tYS cI cB cO cL) (k := 7) hx hb hK hW 0 0 rfl rfl (by decide) (by decide) (by decide) dL_sounds_178 ?_
            refine lv_idiv hx hb dL_sounds_179 hg7 ?_
            refine lv_isub hx hb dL_sounds_180 ?_
            refine lv_goto (tgt := 185) hx hb dL_sounds_181 (by decide) ?_
            refine tp_i (show (((m1 (10 * k + 5)) - (nI (vn % 100001))) - (((pL_root (((x9 - (m1 (10 * k + 0))) * (x9 - (m1 (10 * k + 0)))) + ((y9 - (m1 (10 * k + 1))) * (y9 - (m1 (10 * k + 1)))))) * (1000 : Int32)) / (g1 7))) = (offK g1 m1 x9 y9 (nI (vn % 100001)) k) from (offK_y hh).symm) ?_
            exact J185 _ (lv_sub hl [0, 1, 2, 3, 4, 5, 6, 7, 8, 9, 10, 11, 12, 13] rfl)
      exact T98 Mn 0 m1 0 _ _ _ _ (by omega) (setI_0 g1 m1 x9 y9 (nI (vn % 100001))) rfl hI hW hS _ (lv_sub hl [0, 1, 6, 7, 8, 9, 11, 5, 4, 3, 2] rfl) (by omega) (by omega)
end SSOUND
