/-! THE LAW: its loop -/
section LOOP
theorem w_31 (a : Int32) : ∃ k : Nat, k < 32 ∧ a &&& 31 = nI k := by
  refine ⟨a.toBitVec.toNat % 32, Nat.mod_lt _ (by omega), ?_⟩
  apply Int32.toBitVec_inj.mp
  rw [Int32.toBitVec_and]
  apply BitVec.eq_of_toNat_eq
  rw [BitVec.toNat_and]
  show a.toBitVec.toNat &&& (2 ^ 5 - 1) = (BitVec.ofNat 32 (a.toBitVec.toNat % 32)).toNat
  rw [Nat.and_two_pow_sub_one_eq_mod, BitVec.toNat_ofNat]
  show a.toBitVec.toNat % 32 = a.toBitVec.toNat % 32 % 2 ^ 32
  omega
theorem w_cases (v : Nat) (h : v < 32) : v = 0 ∨ v = 1 ∨ v = 2 ∨ v = 3 ∨ v = 4 ∨ v = 5 ∨ v = 6 ∨ v = 7 ∨ v = 8 ∨ v = 9 ∨ v = 10 ∨ v = 11 ∨ v = 12 ∨ v = 13 ∨ v = 14 ∨ v = 15 ∨ v = 16 ∨ v = 17 ∨ v = 18 ∨ v = 19 ∨ v = 20 ∨ v = 21 ∨ v = 22 ∨ v = 23 ∨ v = 24 ∨ v = 25 ∨ v = 26 ∨ v = 27 ∨ v = 28 ∨ v = 29 ∨ v = 30 ∨ v = 31 := by omega
theorem w_gt {i L : Nat} (hL : L ≤ 3072) (h : L < i + 6) (hi : i ≤ L + 6) : Int32.ofNat L - 6 < nI i := by
  rw [Int32.lt_iff_toInt_lt, nI_toInt (by omega), Int32.toInt_sub]
  show (Int32.toInt (nI L) - Int32.toInt 6).bmod (2 ^ 32) < (i : Int)
  rw [nI_toInt (by omega), show Int32.toInt 6 = 6 from rfl, Int.bmod_eq_of_le (by omega) (by omega)]
  omega
set_option maxHeartbeats 4000000 in
set_option maxRecDepth 100000 in
theorem w_loop (p : Program) (l : Launch) (e : Env) (s : State) (m : MethodId) (below : List Frame) (meth : Method) (c : Code) (b L : Nat) (xs : Nat → Int32) (dC : Nat → ClassId) (dI : Nat → Nat → Nat) (cI cB cO cL : ClassId) (sT eA qb qs qu qr qe qx qd qk qm : Nat → Nat) (ao : Nat) (hLS : LStart p l s m meth c b L xs (dC, dI) cI cB cO cL sT eA qb qs qu qr qe qx qd qk qm ao) :
    ∀ (d i cells slots : Nat), L < i + 6 * d → cells + 4 * d ≤ 601024 → slots + 24 * d ≤ 7293034 → ∀ (bs : BS) (s9 : SS) (u : US) (tr te x : TS) (rd : RS) (kk : Int32) (mm : MS) (o : Nat → Int64) (H : Heap) (locs : List Loc) (ls : Array Slot), LI (dC, dI) cI cB cO cL eA qb qs qu qr qe qx qd qk qm ao bs s9 u tr te x rd kk mm o H → SR bs s9 u x kk mm → va_S (xA s.heap.size) s.heap H locs → lv_has ls 9 (lvL b ao qm qk i) → i ≤ L + 6 → W p l e room_1 s m #[Value.ref b] below meth c H locs cells slots (lw_Z below #[Value.ref b] s) (F0 m 23 ls []) := by
  have hLS0 := hLS
  obtain ⟨hfl, ⟨hx, hb, hr, hml, hown, hts, hlocks⟩, hK, hF, hC, hX, hbl, hL, hG⟩ := hLS
  intro d
  induction d with
  | zero =>
    intro i cells slots hd hc hs bs s9 u tr te x rd kk mm o H locs ls hI hR hS hl hiL
    refine lv_iload hx hb dL_law_23 (lv_at hl 0 rfl) ?_
    refine lv_aload_n hx hb dL_law_25 rfl (lv_at hl 4 rfl) ?_
    refine va_slen hx hb hX hbl (Nat.not_le.mpr hbl) hS dL_law_26 ?_
    refine lv_bipush (v := 6) hx hb dL_law_27 (by decide) ?_
    refine lv_isub hx hb dL_law_29 ?_
    refine lv_icmp_gt (tgt := 1978) hx hb dL_law_30 (by decide) (fun _ => ?_) (fun h9 => absurd (w_gt hL (by omega) hiL) h9)
    refine va_forget hS.2.2 ?_
    refine W.widen (k := 601024) (n := 7293034) (by omega) (by omega) ?_
    refine lv_iconst (v := 1) hx hb dL_law_1978 (by decide) ?_
    refine W.base ?_
    exact lw_ret (Drawn.sameBut.refl s.drawn lw_cs) hx hb hr hlocks dL_law_1979
  | succ d ih =>
    intro i cells slots hd hc hs bs s9 u tr te x rd kk mm o H locs ls hI hR hS hl hiL
    refine lv_iload hx hb dL_law_23 (lv_at hl 0 rfl) ?_
    refine lv_aload_n hx hb dL_law_25 rfl (lv_at hl 4 rfl) ?_
    refine va_slen hx hb hX hbl (Nat.not_le.mpr hbl) hS dL_law_26 ?_
    refine lv_bipush (v := 6) hx hb dL_law_27 (by decide) ?_
    refine lv_isub hx hb dL_law_29 ?_
    refine lv_icmp_gt (tgt := 1978) hx hb dL_law_30 (by decide) (fun _ => ?_) (fun h9 => ?_)
    · refine va_forget hS.2.2 ?_
      refine W.widen (k := 601024) (n := 7293034) (by omega) (by omega) ?_
      refine lv_iconst (v := 1) hx hb dL_law_1978 (by decide) ?_
      refine W.base ?_
      exact lw_ret (Drawn.sameBut.refl s.drawn lw_cs) hx hb hr hlocks dL_law_1979
    · have hi : i + 6 ≤ L := Nat.not_lt.mp (fun h => h9 (w_gt hL (by omega) hiL))
      have hgo : LGo p l e s m below meth c b (dC, dI) cI cB cO cL eA qb qs qu qr qe qx qd qk qm ao i (cells + 4) (slots + 24) := by
        intro bs s9 u tr te x rd kk mm o H locs ls hI hR hS hl
        refine lv_iinc (v := nI i + 6) (lv' := [(4, .int (nI i + 6)), (3, .ref ao), (2, .ref (qm 0)), (1, .ref (qk 0)), (0, .ref b)]) hx hb dL_law_1972 hl (k := 0) rfl rfl (by decide) rfl (fun ls hl => ?_)
        refine lv_goto (tgt := 23) hx hb dL_law_1975 (by decide) ?_
        have e6 : nI i + 6 = nI (i + 6) := nI_add i 6
        rw [e6] at hl
        exact ih (i + 6) (cells + 4) (slots + 24) (by omega) (by omega) (by omega) bs s9 u tr te x rd kk mm o H locs ls hI hR hS hl (by omega)
      refine lv_aload_n hx hb dL_law_33 rfl (lv_at hl 4 rfl) ?_
      refine lv_iload hx hb dL_law_34 (lv_at hl 0 rfl) ?_
      refine va_sld hx hb hX hbl (Nat.not_le.mpr hbl) hS (vp_in_n (i := i) (by omega) (by omega)) dL_law_36 ?_
      refine lv_bipush (v := 31) hx hb dL_law_37 (by decide) ?_
      refine lv_iand hx hb dL_law_39 ?_
      obtain ⟨v, hv, ev⟩ := w_31 (xs (nI i).toNatClampNeg)
      rw [ev]
      rcases w_cases v hv with rfl | rfl | rfl | rfl | rfl | rfl | rfl | rfl | rfl | rfl | rfl | rfl | rfl | rfl | rfl | rfl | rfl | rfl | rfl | rfl | rfl | rfl | rfl | rfl | rfl | rfl | rfl | rfl | rfl | rfl | rfl | rfl
      · refine lv_tableIn (off := 140) (tgt := 180) hx hb dL_law_40 (by decide) (by decide) rfl (by decide) ?_
        exact w_begin p l e s m below meth c b L xs dC dI cI cB cO cL sT eA qb qs qu qr qe qx qd qk qm ao hLS0 i hi bs s9 u tr te x rd kk mm o H locs ls cells slots (by omega) (by omega) hI hR hS hl hgo
      · refine lv_tableIn (off := 208) (tgt := 248) hx hb dL_law_40 (by decide) (by decide) rfl (by decide) ?_
        exact w_addMicrophone p l e s m below meth c b L xs dC dI cI cB cO cL sT eA qb qs qu qr qe qx qd qk qm ao hLS0 i hi bs s9 u tr te x rd kk mm o H locs ls cells slots (by omega) (by omega) hI hR hS hl hgo
      · refine lv_tableIn (off := 276) (tgt := 316) hx hb dL_law_40 (by decide) (by decide) rfl (by decide) ?_
        exact w_setClock p l e s m below meth c b L xs dC dI cI cB cO cL sT eA qb qs qu qr qe qx qd qk qm ao hLS0 i hi bs s9 u tr te x rd kk mm o H locs ls cells slots (by omega) (by omega) hI hR hS hl hgo
      · refine lv_tableIn (off := 344) (tgt := 384) hx hb dL_law_40 (by decide) (by decide) rfl (by decide) ?_
        exact w_addWall p l e s m below meth c b L xs dC dI cI cB cO cL sT eA qb qs qu qr qe qx qd qk qm ao hLS0 i hi bs s9 u tr te x rd kk mm o H locs ls cells slots (by omega) (by omega) hI hR hS hl hgo
      · refine lv_tableIn (off := 424) (tgt := 464) hx hb dL_law_40 (by decide) (by decide) rfl (by decide) ?_
        exact w_addScreen p l e s m below meth c b L xs dC dI cI cB cO cL sT eA qb qs qu qr qe qx qd qk qm ao hLS0 i hi bs s9 u tr te x rd kk mm o H locs ls cells slots (by omega) (by omega) hI hR hS hl hgo
      · refine lv_tableIn (off := 516) (tgt := 556) hx hb dL_law_40 (by decide) (by decide) rfl (by decide) ?_
        exact w_remove p l e s m below meth c b L xs dC dI cI cB cO cL sT eA qb qs qu qr qe qx qd qk qm ao hLS0 i hi bs s9 u tr te x rd kk mm o H locs ls cells slots (by omega) (by omega) hI hR hS hl hgo
      · refine lv_tableIn (off := 584) (tgt := 624) hx hb dL_law_40 (by decide) (by decide) rfl (by decide) ?_
        exact w_set p l e s m below meth c b L xs dC dI cI cB cO cL sT eA qb qs qu qr qe qx qd qk qm ao hLS0 i hi bs s9 u tr te x rd kk mm o H locs ls cells slots (by omega) (by omega) hI hR hS hl hgo
      · refine lv_tableIn (off := 652) (tgt := 692) hx hb dL_law_40 (by decide) (by decide) rfl (by decide) ?_
        exact w_setS p l e s m below meth c b L xs dC dI cI cB cO cL sT eA qb qs qu qr qe qx qd qk qm ao hLS0 i hi bs s9 u tr te x rd kk mm o H locs ls cells slots (by omega) (by omega) hI hR hS hl hgo
      · refine lv_tableIn (off := 708) (tgt := 748) hx hb dL_law_40 (by decide) (by decide) rfl (by decide) ?_
        exact w_click p l e s m below meth c b L xs dC dI cI cB cO cL sT eA qb qs qu qr qe qx qd qk qm ao hLS0 i hi bs s9 u tr te x rd kk mm o H locs ls cells slots (by omega) (by omega) hI hR hS hl hgo
      · refine lv_tableIn (off := 788) (tgt := 828) hx hb dL_law_40 (by decide) (by decide) rfl (by decide) ?_
        exact w_calibrate p l e s m below meth c b L xs dC dI cI cB cO cL sT eA qb qs qu qr qe qx qd qk qm ao hLS0 i hi bs s9 u tr te x rd kk mm o H locs ls cells slots (by omega) (by omega) hI hR hS hl hgo
      · refine lv_tableIn (off := 868) (tgt := 908) hx hb dL_law_40 (by decide) (by decide) rfl (by decide) ?_
        exact w_note p l e s m below meth c b L xs dC dI cI cB cO cL sT eA qb qs qu qr qe qx qd qk qm ao hLS0 i hi bs s9 u tr te x rd kk mm o H locs ls cells slots (by omega) (by omega) hI hR hS hl hgo
      · refine lv_tableIn (off := 924) (tgt := 964) hx hb dL_law_40 (by decide) (by decide) rfl (by decide) ?_
        exact w_heard p l e s m below meth c b L xs dC dI cI cB cO cL sT eA qb qs qu qr qe qx qd qk qm ao hLS0 i hi bs s9 u tr te x rd kk mm o H locs ls cells slots (by omega) (by omega) hI hR hS hl hgo
      · refine lv_tableIn (off := 992) (tgt := 1032) hx hb dL_law_40 (by decide) (by decide) rfl (by decide) ?_
        exact w_arrivals p l e s m below meth c b L xs dC dI cI cB cO cL sT eA qb qs qu qr qe qx qd qk qm ao hLS0 i hi bs s9 u tr te x rd kk mm o H locs ls cells slots (by omega) (by omega) hI hR hS hl hgo
      · refine lv_tableIn (off := 1072) (tgt := 1112) hx hb dL_law_40 (by decide) (by decide) rfl (by decide) ?_
        exact w_arrival p l e s m below meth c b L xs dC dI cI cB cO cL sT eA qb qs qu qr qe qx qd qk qm ao hLS0 i hi bs s9 u tr te x rd kk mm o H locs ls cells slots (by omega) (by omega) hI hR hS hl hgo
      · refine lv_tableIn (off := 1176) (tgt := 1216) hx hb dL_law_40 (by decide) (by decide) rfl (by decide) ?_
        exact w_delay p l e s m below meth c b L xs dC dI cI cB cO cL sT eA qb qs qu qr qe qx qd qk qm ao hLS0 i hi bs s9 u tr te x rd kk mm o H locs ls cells slots (by omega) (by omega) hI hR hS hl hgo
      · refine lv_tableIn (off := 1244) (tgt := 1284) hx hb dL_law_40 (by decide) (by decide) rfl (by decide) ?_
        exact w_expected p l e s m below meth c b L xs dC dI cI cB cO cL sT eA qb qs qu qr qe qx qd qk qm ao hLS0 i hi bs s9 u tr te x rd kk mm o H locs ls cells slots (by omega) (by omega) hI hR hS hl hgo
      · refine lv_tableIn (off := 1324) (tgt := 1364) hx hb dL_law_40 (by decide) (by decide) rfl (by decide) ?_
        exact w_votes p l e s m below meth c b L xs dC dI cI cB cO cL sT eA qb qs qu qr qe qx qd qk qm ao hLS0 i hi bs s9 u tr te x rd kk mm o H locs ls cells slots (by omega) (by omega) hI hR hS hl hgo
      · refine lv_tableIn (off := 1380) (tgt := 1420) hx hb dL_law_40 (by decide) (by decide) rfl (by decide) ?_
        exact w_error p l e s m below meth c b L xs dC dI cI cB cO cL sT eA qb qs qu qr qe qx qd qk qm ao hLS0 i hi bs s9 u tr te x rd kk mm o H locs ls cells slots (by omega) (by omega) hI hR hS hl hgo
      · refine lv_tableIn (off := 1436) (tgt := 1476) hx hb dL_law_40 (by decide) (by decide) rfl (by decide) ?_
        exact w_found p l e s m below meth c b L xs dC dI cI cB cO cL sT eA qb qs qu qr qe qx qd qk qm ao hLS0 i hi bs s9 u tr te x rd kk mm o H locs ls cells slots (by omega) (by omega) hI hR hS hl hgo
      · refine lv_tableIn (off := 1449) (tgt := 1489) hx hb dL_law_40 (by decide) (by decide) rfl (by decide) ?_
        exact w_middle p l e s m below meth c b L xs dC dI cI cB cO cL sT eA qb qs qu qr qe qx qd qk qm ao hLS0 i hi bs s9 u tr te x rd kk mm o H locs ls cells slots (by omega) (by omega) hI hR hS hl hgo
      · refine lv_tableIn (off := 1518) (tgt := 1558) hx hb dL_law_40 (by decide) (by decide) rfl (by decide) ?_
        exact w_blame p l e s m below meth c b L xs dC dI cI cB cO cL sT eA qb qs qu qr qe qx qd qk qm ao hLS0 i hi bs s9 u tr te x rd kk mm o H locs ls cells slots (by omega) (by omega) hI hR hS hl hgo
      · refine lv_tableIn (off := 1574) (tgt := 1614) hx hb dL_law_40 (by decide) (by decide) rfl (by decide) ?_
        exact w_suspect p l e s m below meth c b L xs dC dI cI cB cO cL sT eA qb qs qu qr qe qx qd qk qm ao hLS0 i hi bs s9 u tr te x rd kk mm o H locs ls cells slots (by omega) (by omega) hI hR hS hl hgo
      · refine lv_tableIn (off := 1587) (tgt := 1627) hx hb dL_law_40 (by decide) (by decide) rfl (by decide) ?_
        exact w_foundWithout p l e s m below meth c b L xs dC dI cI cB cO cL sT eA qb qs qu qr qe qx qd qk qm ao hLS0 i hi bs s9 u tr te x rd kk mm o H locs ls cells slots (by omega) (by omega) hI hR hS hl hgo
      · refine lv_tableIn (off := 1643) (tgt := 1683) hx hb dL_law_40 (by decide) (by decide) rfl (by decide) ?_
        exact w_whole p l e s m below meth c b L xs dC dI cI cB cO cL sT eA qb qs qu qr qe qx qd qk qm ao hLS0 i hi bs s9 u tr te x rd kk mm o H locs ls cells slots (by omega) (by omega) hI hR hS hl hgo
      · refine lv_tableIn (off := 1699) (tgt := 1739) hx hb dL_law_40 (by decide) (by decide) rfl (by decide) ?_
        exact w_part p l e s m below meth c b L xs dC dI cI cB cO cL sT eA qb qs qu qr qe qx qd qk qm ao hLS0 i hi bs s9 u tr te x rd kk mm o H locs ls cells slots (by omega) (by omega) hI hR hS hl hgo
      · refine lv_tableIn (off := 1779) (tgt := 1819) hx hb dL_law_40 (by decide) (by decide) rfl (by decide) ?_
        exact w_type p l e s m below meth c b L xs dC dI cI cB cO cL sT eA qb qs qu qr qe qx qd qk qm ao hLS0 i hi bs s9 u tr te x rd kk mm o H locs ls cells slots (by omega) (by omega) hI hR hS hl hgo
      · refine lv_tableIn (off := 1835) (tgt := 1875) hx hb dL_law_40 (by decide) (by decide) rfl (by decide) ?_
        exact w_clearCommands p l e s m below meth c b L xs dC dI cI cB cO cL sT eA qb qs qu qr qe qx qd qk qm ao hLS0 i hi bs s9 u tr te x rd kk mm o H locs ls cells slots (by omega) (by omega) hI hR hS hl hgo
      · refine lv_tableIn (off := 1848) (tgt := 1888) hx hb dL_law_40 (by decide) (by decide) rfl (by decide) ?_
        exact w_runCommands p l e s m below meth c b L xs dC dI cI cB cO cL sT eA qb qs qu qr qe qx qd qk qm ao hLS0 i hi bs s9 u tr te x rd kk mm o H locs ls cells slots (by omega) (by omega) hI hR hS hl hgo
      · refine lv_tableIn (off := 1861) (tgt := 1901) hx hb dL_law_40 (by decide) (by decide) rfl (by decide) ?_
        exact w_stop p l e s m below meth c b L xs dC dI cI cB cO cL sT eA qb qs qu qr qe qx qd qk qm ao hLS0 i hi bs s9 u tr te x rd kk mm o H locs ls cells slots (by omega) (by omega) hI hR hS hl hgo
      · refine lv_tableIn (off := 1874) (tgt := 1914) hx hb dL_law_40 (by decide) (by decide) rfl (by decide) ?_
        exact w_undo p l e s m below meth c b L xs dC dI cI cB cO cL sT eA qb qs qu qr qe qx qd qk qm ao hLS0 i hi bs s9 u tr te x rd kk mm o H locs ls cells slots (by omega) (by omega) hI hR hS hl hgo
      · refine lv_tableIn (off := 1918) (tgt := 1958) hx hb dL_law_40 (by decide) (by decide) rfl (by decide) ?_
        exact w_digest p l e s m below meth c b L xs dC dI cI cB cO cL sT eA qb qs qu qr qe qx qd qk qm ao hLS0 i hi bs s9 u tr te x rd kk mm o H locs ls cells slots (by omega) (by omega) hI hR hS hl hgo
      · refine lv_tableOut (tgt := 1972) hx hb dL_law_40 (Or.inr (by decide)) (by decide) ?_
        exact W.widen (Nat.le_add_right cells 4) (Nat.le_add_right slots 24) (hgo bs s9 u tr te x rd kk mm o H locs ls hI hR hS hl)
end LOOP
