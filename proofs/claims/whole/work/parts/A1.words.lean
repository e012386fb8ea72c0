/-! TEXTS OF CONSTANTS: length, charAt (the JDK's own methods); isWord, commandAt -/
section WORDS
theorem cm_len : ∀ i : Nat, i < 7 → nI (cmL.getD i 0) >>> ((0 : Int32) &&& 31) = nI (cmL.getD i 0) ∧ cmL.getD i 0 ≤ 6 := by decide +kernel
theorem cm_ch : ∀ i : Nat, i < 7 → ∀ k : Nat, k < cmL.getD i 0 → ((((cmB.getD i []).getD (nI k).toNatClampNeg 0) &&& 255).toUInt32 % 65536).toInt32 = (cmB.getD i []).getD k 0 ∧ narrow .char (.int ((cmB.getD i []).getD k 0)) = .int ((cmB.getD i []).getD k 0) := by decide +kernel
abbrev rJ0 (f n : Nat) : Room := { frames := f, cells := 0, slots := 0, locals := n }
set_option maxHeartbeats 4000000 in
set_option maxRecDepth 100000 in
theorem mJx29ce0_ordinal_8abf5 (l : Launch) (dC : Nat → ClassId) (dI : Nat → Nat → Nat) (cI cB cO cL : ClassId) (N0 : Nat) (sT eA : Nat → Nat) (i : Nat) (hi : i < 7) : Met l yJx29ce0_ordinal_8abf5 wsJx29ce0_ordinal_8abf5 (rJ0 0 0) (fP N0 sT eA (dC, dI) (tYS cI cB cO cL) [] [.ref (eA i)]) (gRi (enO (some i))) 0 0 (fun _ => False) := by
  refine fMet (cc := cJx29ce0_ordinal_8abf5) (maxL := 1) (ret := some .int) [(0, .ref (eA i))] (by decide) rfl rfl rfl ?_
  intro p e s mi below meth c C0 hK hF hP ls hl
  obtain ⟨hx, hb, hr, hml, hown, hts, hlocks⟩ := id C0
  have hown : s.vm.findClass RJx29ce0 = some mi.cls := hown
  have hN : ∀ q : Nat, (fun _ : Nat => False) q → N0 ≤ q := fun _ h => h.elim
  have hS : va_S (fun _ : Nat => False) s.heap s.heap [] := va_S.rf
  have hH := hF.2.2.narrow hN
  refine lv_aload_n hx hb dJx29ce0_ordinal_8abf5_0 rfl (lv_at hl 0 rfl) ?_
  refine va_getE hx hb hH.2.2.2.2.2.1 (i := i) hi hS hown (q := ("java/lang/Enum", "ordinal", "I", [0, 1, 2, 3, 4, 5, 6])) List.mem_cons_self (hts (.fieldLink RJx29ce0 7 "java/lang/Enum" "ordinal" "I") (by decide +kernel)) (fun _ h => h) dJx29ce0_ordinal_8abf5_1 ?_
  exact e_ri C0 rfl dJx29ce0_ordinal_8abf5_4
set_option maxHeartbeats 4000000 in
set_option maxRecDepth 100000 in
theorem mJ0_coder (l : Launch) (dC : Nat → ClassId) (dI : Nat → Nat → Nat) (cI cB cO cL : ClassId) (N0 : Nat) (sT eA : Nat → Nat) (i : Nat) (hi : i < 7) : Met l yJ0_coder_7d493 wsJ0_coder_7d493 (rJ0 0 0) (fP N0 sT eA (dC, dI) (tYS cI cB cO cL) [] [.ref (sT (10 + i))]) (gRi 0) 0 0 (fun _ => False) := by
  refine fMet (cc := cJ0_coder_7d493) (maxL := 1) (ret := some .byte) [(0, .ref (sT (10 + i)))] (by decide) rfl rfl rfl ?_
  intro p e s mi below meth c C0 hK hF hP ls hl
  obtain ⟨hx, hb, hr, hml, hown, hts, hlocks⟩ := id C0
  have hown : s.vm.findClass RJ0 = some mi.cls := hown
  have hN : ∀ q : Nat, (fun _ : Nat => False) q → N0 ≤ q := fun _ h => h.elim
  have hS : va_S (fun _ : Nat => False) s.heap s.heap [] := va_S.rf
  have hH := hF.2.2.narrow hN
  obtain ⟨hW, hT, hCo, hSi⟩ := hH.2.2.2.2.2.2.2.1
  refine va_gets hx hb hCo hS hown (hts (.fieldLink RJ0 38 "java/lang/String" "COMPACT_STRINGS" "Z") (by decide +kernel)) (fun _ h => h) dJ0_coder_7d493_0 ?_
  refine lv_if_eq (tgt := 13) hx hb dJ0_coder_7d493_3 (by decide) (fun c => absurd c (by decide)) (fun c => ?_)
  refine lv_aload_n hx hb dJ0_coder_7d493_6 rfl (lv_at hl 0 rfl) ?_
  refine vk_getf hx hb (hT.1 i hi).2.1 hS hown (hts (.fieldLink RJ0 15 "java/lang/String" "coder" "B") (by decide +kernel)) (fun _ h => h) dJ0_coder_7d493_7 ?_
  refine lv_goto (tgt := 14) hx hb dJ0_coder_7d493_10 (by decide) ?_
  exact e_rn C0 rfl rfl dJ0_coder_7d493_14
set_option maxHeartbeats 4000000 in
set_option maxRecDepth 100000 in
theorem mJ0_isLatin1 (l : Launch) (dC : Nat → ClassId) (dI : Nat → Nat → Nat) (cI cB cO cL : ClassId) (N0 : Nat) (sT eA : Nat → Nat) (i : Nat) (hi : i < 7) : Met l yJ0_isLatin1_aae02 wsJ0_isLatin1_aae02 (rJ0 0 0) (fP N0 sT eA (dC, dI) (tYS cI cB cO cL) [] [.ref (sT (10 + i))]) (gRz true) 0 0 (fun _ => False) := by
  refine fMet (cc := cJ0_isLatin1_aae02) (maxL := 1) (ret := some .boolean) [(0, .ref (sT (10 + i)))] (by decide) rfl rfl rfl ?_
  intro p e s mi below meth c C0 hK hF hP ls hl
  obtain ⟨hx, hb, hr, hml, hown, hts, hlocks⟩ := id C0
  have hown : s.vm.findClass RJ0 = some mi.cls := hown
  have hN : ∀ q : Nat, (fun _ : Nat => False) q → N0 ≤ q := fun _ h => h.elim
  have hS : va_S (fun _ : Nat => False) s.heap s.heap [] := va_S.rf
  have hH := hF.2.2.narrow hN
  obtain ⟨hW, hT, hCo, hSi⟩ := hH.2.2.2.2.2.2.2.1
  refine va_gets hx hb hCo hS hown (hts (.fieldLink RJ0 38 "java/lang/String" "COMPACT_STRINGS" "Z") (by decide +kernel)) (fun _ h => h) dJ0_isLatin1_aae02_0 ?_
  refine lv_if_eq (tgt := 17) hx hb dJ0_isLatin1_aae02_3 (by decide) (fun c => absurd c (by decide)) (fun c => ?_)
  refine lv_aload_n hx hb dJ0_isLatin1_aae02_6 rfl (lv_at hl 0 rfl) ?_
  refine vk_getf hx hb (hT.1 i hi).2.1 hS hown (hts (.fieldLink RJ0 15 "java/lang/String" "coder" "B") (by decide +kernel)) (fun _ h => h) dJ0_isLatin1_aae02_7 ?_
  refine lv_if_ne (tgt := 17) hx hb dJ0_isLatin1_aae02_10 (by decide) (fun c => absurd rfl c) (fun c => ?_)
  refine lv_iconst (v := 1) hx hb dJ0_isLatin1_aae02_13 (by decide) ?_
  refine lv_goto (tgt := 18) hx hb dJ0_isLatin1_aae02_14 (by decide) ?_
  exact e_rz C0 (b := true) rfl rfl dJ0_isLatin1_aae02_18
set_option maxHeartbeats 4000000 in
set_option maxRecDepth 100000 in
theorem mJ0_length (l : Launch) (dC : Nat → ClassId) (dI : Nat → Nat → Nat) (cI cB cO cL : ClassId) (N0 : Nat) (sT eA : Nat → Nat) (i : Nat) (hi : i < 7) : Met l yJ0_length_8abf5 wsJ0_length_8abf5 (rJ0 1 20) (fP N0 sT eA (dC, dI) (tYS cI cB cO cL) [] [.ref (sT (10 + i))]) (gRi (nI (cmL.getD i 0))) 0 0 (fun _ => False) := by
  refine fMet (cc := cJ0_length_8abf5) (maxL := 1) (ret := some .int) [(0, .ref (sT (10 + i)))] (by decide) rfl rfl rfl ?_
  intro p e s mi below meth c C0 hK hF hP ls hl
  obtain ⟨hx, hb, hr, hml, hown, hts, hlocks⟩ := id C0
  have hown : s.vm.findClass RJ0 = some mi.cls := hown
  have hN : ∀ q : Nat, (fun _ : Nat => False) q → N0 ≤ q := fun _ h => h.elim
  have hS : va_S (fun _ : Nat => False) s.heap s.heap [] := va_S.rf
  have hH := hF.2.2.narrow hN
  obtain ⟨hW, hT, hCo, hSi⟩ := hH.2.2.2.2.2.2.2.1
  refine lv_aload_n hx hb dJ0_length_8abf5_0 rfl (lv_at hl 0 rfl) ?_
  refine vk_getf hx hb (hT.1 i hi).2.2.1 hS hown (hts (.fieldLink RJ0 9 "java/lang/String" "value" "[B") (by decide +kernel)) (fun _ h => h) dJ0_length_8abf5_1 ?_
  refine va_tlen hx hb (hT.1 i hi).2.2.2 hS (v := nI (cmL.getD i 0)) rfl dJ0_length_8abf5_4 ?_
  refine lv_aload_n hx hb dJ0_length_8abf5_5 rfl (lv_at hl 0 rfl) ?_
  refine gro_i (va_runV (As := []) (rest := [.int (nI (cmL.getD i 0))]) ⟨hx, hb, hml, hown, hts⟩ (mJ0_coder l dC dI cI cB cO cL N0 sT eA i hi) (cwV 0 hts gJ0_length_8abf5_J0_coder_7d493 rfl rfl rfl (by decide +kernel) ⟨Nat.le_of_ble_eq_true rfl, Nat.le_of_ble_eq_true rfl⟩) ⟨fP_blind, vk_recv hT hi hS, fP_ok va_P_nil hK hF hS hN⟩ rfl rfl hl.1 rfl (lv_room (Nat.le_of_ble_eq_true rfl)) dJ0_length_8abf5_6 ⟨Nat.zero_le _, Nat.zero_le _⟩) ?_
  refine lv_ishr hx hb dJ0_length_8abf5_9 ?_
  exact e_ri C0 (cm_len i hi).1 dJ0_length_8abf5_10
set_option maxHeartbeats 4000000 in
set_option maxRecDepth 100000 in
theorem mJ3_checkIndex (l : Launch) (dC : Nat → ClassId) (dI : Nat → Nat → Nat) (cI cB cO cL : ClassId) (N0 : Nat) (sT eA : Nat → Nat) (k n : Nat) (hk : k < n) (hn : n < 2 ^ 31) (r : Option Nat) : Met l yJ3_checkIndex_8e157 wsJ3_checkIndex_8e157 (rJ0 0 0) (fP N0 sT eA (dC, dI) (tYS cI cB cO cL) [] [.int (nI k), .int (nI n), va_rf r]) (gRi (nI k)) 0 0 (fun _ => False) := by
  refine fMet (cc := cJ3_checkIndex_8e157) (maxL := 3) (ret := some .int) [(0, .int (nI k)), (1, .int (nI n)), (2, va_rf r)] (by decide) rfl (by cases r <;> rfl) (by cases r <;> rfl) ?_
  intro p e s mi below meth c C0 hK hF hP ls hl
  obtain ⟨hx, hb, hr, hml, hown, hts, hlocks⟩ := id C0
  refine lv_iload_n hx hb dJ3_checkIndex_8e157_0 rfl (lv_at hl 0 rfl) ?_
  refine lv_if_lt (tgt := 9) hx hb dJ3_checkIndex_8e157_1 (by decide) (fun c => absurd c (nI_pos (by omega))) (fun c => ?_)
  refine lv_iload_n hx hb dJ3_checkIndex_8e157_4 rfl (lv_at hl 0 rfl) ?_
  refine lv_iload_n hx hb dJ3_checkIndex_8e157_5 rfl (lv_at hl 1 rfl) ?_
  refine lv_icmp_lt (tgt := 16) hx hb dJ3_checkIndex_8e157_6 (by decide) (fun c => ?_) (fun c => absurd (nI_lt hk hn) c)
  refine lv_iload_n hx hb dJ3_checkIndex_8e157_16 rfl (lv_at hl 0 rfl) ?_
  exact e_ri C0 rfl dJ3_checkIndex_8e157_17
set_option maxHeartbeats 4000000 in
set_option maxRecDepth 100000 in
theorem mJ0_checkIndex (l : Launch) (dC : Nat → ClassId) (dI : Nat → Nat → Nat) (cI cB cO cL : ClassId) (N0 : Nat) (sT eA : Nat → Nat) (k n : Nat) (hk : k < n) (hn : n < 2 ^ 31) : Met l yJ0_checkIndex_df160 wsJ0_checkIndex_df160 (rJ0 1 22) (fP N0 sT eA (dC, dI) (tYS cI cB cO cL) [] [.int (nI k), .int (nI n)]) gRv 0 0 (fun _ => False) := by
  refine fMet (cc := cJ0_checkIndex_df160) (maxL := 2) (ret := none) [(0, .int (nI k)), (1, .int (nI n))] (by decide) rfl rfl rfl ?_
  intro p e s mi below meth c C0 hK hF hP ls hl
  obtain ⟨hx, hb, hr, hml, hown, hts, hlocks⟩ := id C0
  have hown : s.vm.findClass RJ0 = some mi.cls := hown
  have hN : ∀ q : Nat, (fun _ : Nat => False) q → N0 ≤ q := fun _ h => h.elim
  have hS : va_S (fun _ : Nat => False) s.heap s.heap [] := va_S.rf
  have hH := hF.2.2.narrow hN
  obtain ⟨hW, hT, hCo, hSi⟩ := hH.2.2.2.2.2.2.2.1
  obtain ⟨r, hZ⟩ : ∃ r : Option Nat, va_Z "jdk/internal/util/Preconditions" "SIOOBE_FORMATTER" "Ljava/util/function/BiFunction;" (va_rf r) (fun _ => False) s s.heap := hSi.elim (fun h => ⟨none, h⟩) (fun ⟨t, h⟩ => ⟨some t, h⟩)
  refine lv_iload_n hx hb dJ0_checkIndex_df160_0 rfl (lv_at hl 0 rfl) ?_
  refine lv_iload_n hx hb dJ0_checkIndex_df160_1 rfl (lv_at hl 1 rfl) ?_
  refine va_gets hx hb hZ hS hown (hts (.fieldLink RJ0 1053 "jdk/internal/util/Preconditions" "SIOOBE_FORMATTER" "Ljava/util/function/BiFunction;") (by decide +kernel)) (fun _ h => h) dJ0_checkIndex_df160_2 ?_
  refine gro_i (va_runS (As := [.int (nI k), .int (nI n), va_rf r]) (rest := []) ⟨hx, hb, hml, hown, hts⟩ (mJ3_checkIndex l dC dI cI cB cO cL N0 sT eA k n hk hn r) (va_cwS 3 hts gJ0_checkIndex_df160_J3_checkIndex_8e157 rfl rfl rfl (by decide +kernel) ⟨Nat.le_of_ble_eq_true rfl, Nat.le_of_ble_eq_true rfl⟩) ⟨fP_blind, fP_ok va_P_nil hK hF hS hN⟩ rfl rfl hl.1 rfl (lv_room (Nat.le_of_ble_eq_true rfl)) dJ0_checkIndex_df160_5 ⟨Nat.zero_le _, Nat.zero_le _⟩) ?_
  refine lv_pop hx hb dJ0_checkIndex_df160_8 rfl ?_
  exact e_rv C0 dJ0_checkIndex_df160_9
set_option maxHeartbeats 4000000 in
set_option maxRecDepth 100000 in
theorem mJ1_charAt (l : Launch) (dC : Nat → ClassId) (dI : Nat → Nat → Nat) (cI cB cO cL : ClassId) (N0 : Nat) (sT eA : Nat → Nat) (i k : Nat) (hi : i < 7) (hk : k < cmL.getD i 0) : Met l yJ1_charAt_3b067 wsJ1_charAt_3b067 (rJ0 2 43) (fP N0 sT eA (dC, dI) (tYS cI cB cO cL) [] [.ref (sT (20 + i)), .int (nI k)]) (gRi ((cmB.getD i []).getD k 0)) 0 0 (fun _ => False) := by
  refine fMet (cc := cJ1_charAt_3b067) (maxL := 2) (ret := some .char) [(0, .ref (sT (20 + i))), (1, .int (nI k))] (by decide) rfl rfl rfl ?_
  intro p e s mi below meth c C0 hK hF hP ls hl
  obtain ⟨hx, hb, hr, hml, hown, hts, hlocks⟩ := id C0
  have hown : s.vm.findClass RJ1 = some mi.cls := hown
  have hN : ∀ q : Nat, (fun _ : Nat => False) q → N0 ≤ q := fun _ h => h.elim
  have hS : va_S (fun _ : Nat => False) s.heap s.heap [] := va_S.rf
  have hH := hF.2.2.narrow hN
  obtain ⟨hW, hT, hCo, hSi⟩ := hH.2.2.2.2.2.2.2.1
  have h6 := (cm_len i hi).2
  obtain ⟨c1, c2⟩ := cm_ch i hi k hk
  refine lv_iload_n hx hb dJ1_charAt_3b067_0 rfl (lv_at hl 1 rfl) ?_
  refine lv_aload_n hx hb dJ1_charAt_3b067_1 rfl (lv_at hl 0 rfl) ?_
  refine va_tlen hx hb (hT.1 i hi).2.2.2 hS (v := nI (cmL.getD i 0)) rfl dJ1_charAt_3b067_2 ?_
  refine va_csv (va_Run.run (va_runS (As := [.int (nI k), .int (nI (cmL.getD i 0))]) (rest := []) ⟨hx, hb, hml, hown, hts⟩ (mJ0_checkIndex l dC dI cI cB cO cL N0 sT eA k (cmL.getD i 0) hk (by omega)) (va_cwS 2 hts gJ1_charAt_3b067_J0_checkIndex_df160 rfl rfl rfl (by decide +kernel) ⟨Nat.le_of_ble_eq_true rfl, Nat.le_of_ble_eq_true rfl⟩) ⟨fP_blind, fP_ok va_P_nil hK hF hS hN⟩ rfl rfl hl.1 rfl (lv_room (Nat.le_of_ble_eq_true rfl)) dJ1_charAt_3b067_3 ⟨Nat.zero_le _, Nat.zero_le _⟩)) (fun _ => ?_)
  refine lv_aload_n hx hb dJ1_charAt_3b067_6 rfl (lv_at hl 0 rfl) ?_
  refine lv_iload_n hx hb dJ1_charAt_3b067_7 rfl (lv_at hl 1 rfl) ?_
  refine va_tb hx hb (hT.1 i hi).2.2.2 hS (vp_in_n hk (by omega)) (v := .int ((cmB.getD i []).getD (nI k).toNatClampNeg 0)) rfl dJ1_charAt_3b067_8 ?_
  refine lv_sipush (v := 255) hx hb dJ1_charAt_3b067_9 (by decide) ?_
  refine lv_iand hx hb dJ1_charAt_3b067_12 ?_
  refine lv_i2c hx hb dJ1_charAt_3b067_13 c1 ?_
  exact e_rn C0 rfl c2 dJ1_charAt_3b067_14
set_option maxHeartbeats 4000000 in
set_option maxRecDepth 100000 in
theorem mJ0_charAt (l : Launch) (dC : Nat → ClassId) (dI : Nat → Nat → Nat) (cI cB cO cL : ClassId) (N0 : Nat) (sT eA : Nat → Nat) (i k : Nat) (hi : i < 7) (hk : k < cmL.getD i 0) : Met l yJ0_charAt_5068e wsJ0_charAt_5068e (rJ0 3 64) (fP N0 sT eA (dC, dI) (tYS cI cB cO cL) [] [.ref (sT (10 + i)), .int (nI k)]) (gRi ((cmB.getD i []).getD k 0)) 0 0 (fun _ => False) := by
  refine fMet (cc := cJ0_charAt_5068e) (maxL := 2) (ret := some .char) [(0, .ref (sT (10 + i))), (1, .int (nI k))] (by decide) rfl rfl rfl ?_
  intro p e s mi below meth c C0 hK hF hP ls hl
  obtain ⟨hx, hb, hr, hml, hown, hts, hlocks⟩ := id C0
  have hown : s.vm.findClass RJ0 = some mi.cls := hown
  have hN : ∀ q : Nat, (fun _ : Nat => False) q → N0 ≤ q := fun _ h => h.elim
  have hS : va_S (fun _ : Nat => False) s.heap s.heap [] := va_S.rf
  have hH := hF.2.2.narrow hN
  obtain ⟨hW, hT, hCo, hSi⟩ := hH.2.2.2.2.2.2.2.1
  refine lv_aload_n hx hb dJ0_charAt_5068e_0 rfl (lv_at hl 0 rfl) ?_
  refine gro_i (va_runV (As := []) (rest := []) ⟨hx, hb, hml, hown, hts⟩ (mJ0_isLatin1 l dC dI cI cB cO cL N0 sT eA i hi) (cwV 0 hts gJ0_charAt_5068e_J0_isLatin1_aae02 rfl rfl rfl (by decide +kernel) ⟨Nat.le_of_ble_eq_true rfl, Nat.le_of_ble_eq_true rfl⟩) ⟨fP_blind, vk_recv hT hi hS, fP_ok va_P_nil hK hF hS hN⟩ rfl rfl hl.1 rfl (lv_room (Nat.le_of_ble_eq_true rfl)) dJ0_charAt_5068e_1 ⟨Nat.zero_le _, Nat.zero_le _⟩) ?_
  refine lv_if_eq (tgt := 16) hx hb dJ0_charAt_5068e_4 (by decide) (fun c => absurd c (by decide)) (fun c => ?_)
  refine lv_aload_n hx hb dJ0_charAt_5068e_7 rfl (lv_at hl 0 rfl) ?_
  refine vk_getf hx hb (hT.1 i hi).2.2.1 hS hown (hts (.fieldLink RJ0 9 "java/lang/String" "value" "[B") (by decide +kernel)) (fun _ h => h) dJ0_charAt_5068e_8 ?_
  refine lv_iload_n hx hb dJ0_charAt_5068e_11 rfl (lv_at hl 1 rfl) ?_
  refine gro_i (va_runS (As := [.ref (sT (20 + i)), .int (nI k)]) (rest := []) ⟨hx, hb, hml, hown, hts⟩ (mJ1_charAt l dC dI cI cB cO cL N0 sT eA i k hi hk) (va_cwS 2 hts gJ0_charAt_5068e_J1_charAt_3b067 rfl rfl rfl (by decide +kernel) ⟨Nat.le_of_ble_eq_true rfl, Nat.le_of_ble_eq_true rfl⟩) ⟨fP_blind, fP_ok va_P_nil hK hF hS hN⟩ rfl rfl hl.1 rfl (lv_room (Nat.le_of_ble_eq_true rfl)) dJ0_charAt_5068e_12 ⟨Nat.zero_le _, Nat.zero_le _⟩) ?_
  exact e_rn C0 rfl (cm_ch i hi k hk).2 dJ0_charAt_5068e_15
/-- the word of a constant stands in the text from a to before b -/
noncomputable def wdF (x : TS) (i : Nat) (a : Int32) : Nat → Nat → Bool
  | 0, _ => true
  | d + 1, j => if (cmB.getD i []).getD j 0 = pX5_byteAt x (a + nI j) then wdF x i a d (j + 1) else false
noncomputable def pX5_isWord (x : TS) (i : Nat) (a b : Int32) : Bool := if nI (cmL.getD i 0) = b - a then wdF x i a (cmL.getD i 0) 0 else false
noncomputable def caF (x : TS) (a b : Int32) : Nat → Nat → Option Nat
  | 0, _ => none
  | d + 1, i => if pX5_isWord x i a b = true then some i else caF x a b d (i + 1)
noncomputable def pX5_commandAt (x : TS) (a b : Int32) : Option Nat := caF x a b 7 0
theorem byteAt_k (x : TS) (a : Int32) : kX5_byteAt x a := by
  unfold kX5_byteAt
  by_cases c : pX11_isBetween a 0 149 = true
  · rw [if_pos c]
    rw [in_eq] at c
    obtain ⟨k, k1, k2, ek⟩ := nI_of_rg (a := 0) (z := 149) ((in_iff _ _ _).mp c)
    rw [ek]
    exact vp_in_n (by omega) (by omega)
  · rw [if_neg c]
    trivial
set_option maxHeartbeats 4000000 in
set_option maxRecDepth 100000 in
theorem mX5_isWord (l : Launch) (dC : Nat → ClassId) (dI : Nat → Nat → Nat) (cI cB cO cL : ClassId) (N0 : Nat) (sT eA : Nat → Nat) (qx : Nat → Nat) (x : TS) (i : Nat) (hi : i < 7) (a b : Int32) : Met l yX5_isWord wsX5_isWord (rJ0 4 85) (fP N0 sT eA (dC, dI) (tYS cI cB cO cL) (xw qx cI x) [.ref (qx 0), .ref (sT (10 + i)), .int a, .int b]) (gRz (pX5_isWord x i a b)) 0 0 (fun _ => False) := by
  refine fMet (cc := cX5_isWord) (maxL := 5) (ret := some .boolean) [(0, .ref (qx 0)), (1, .ref (sT (10 + i))), (2, .int a), (3, .int b)] (by decide) rfl rfl rfl ?_
  intro p e s mi below meth c C0 hK hF hP ls hl
  obtain ⟨hx, hb, hr, hml, hown, hts, hlocks⟩ := id C0
  have hown : s.vm.findClass RX5 = some mi.cls := hown
  have hE := hF.1
  have hN : ∀ q : Nat, (fun _ : Nat => False) q → N0 ≤ q := fun _ h => h.elim
  have hS : va_S (fun _ : Nat => False) s.heap s.heap [] := va_S.rf
  have hH := hF.2.2.narrow hN
  obtain ⟨hW, hT, hCo, hSi⟩ := hH.2.2.2.2.2.2.2.1
  have h6 := (cm_len i hi).2
  obtain ⟨n, hn⟩ : ∃ n, n = cmL.getD i 0 := ⟨_, rfl⟩
  have LEN : ∀ (pc : Nat) (ls : Array Slot) (rest : List Value) (Q : State → Prop), ls.size = 5 → decode cX5_isWord pc = .ok (.invokevirtual 42, 3) → 2 * 0 + (rest.map fun v => v.category).sum ≤ 8 → W p l e (rJ0 4 85) s mi ([.ref (qx 0), .ref (sT (10 + i)), .int a, .int b] : List Value).toArray below meth c s.heap [] 0 0 Q (F0 mi (pc + 3) ls (.int (nI n) :: rest)) → W p l e (rJ0 4 85) s mi ([.ref (qx 0), .ref (sT (10 + i)), .int a, .int b] : List Value).toArray below meth c s.heap [] 0 0 Q (F0 mi pc ls (.ref (sT (10 + i)) :: rest)) := by
    intro pc ls rest Q hsz hdg hroom kk
    rw [hn] at kk
    exact gro_i (va_runV (As := []) (rest := rest) ⟨hx, hb, hml, hown, hts⟩ (mJ0_length l dC dI cI cB cO cL N0 sT eA i hi) (cwV 0 hts gX5_isWord_J0_length_8abf5 rfl rfl rfl (by decide +kernel) ⟨Nat.le_of_ble_eq_true rfl, Nat.le_of_ble_eq_true rfl⟩) ⟨fP_blind, vk_recv hT hi hS, fP_ok va_P_nil hK hF hS hN⟩ rfl rfl hsz rfl hroom hdg ⟨Nat.zero_le _, Nat.zero_le _⟩) kk
  have J_15 : ∀ (d j : Nat), j + d = n → ∀ ls : Array Slot, lv_has ls 5 [(4, .int (nI j)), (0, .ref (qx 0)), (1, .ref (sT (10 + i))), (2, .int a), (3, .int b)] → pX5_isWord x i a b = wdF x i a d j → W p l e (rJ0 4 85) s mi ([.ref (qx 0), .ref (sT (10 + i)), .int a, .int b] : List Value).toArray below meth c s.heap [] 0 0 (MQ below (gRz (pX5_isWord x i a b)) ([.ref (qx 0), .ref (sT (10 + i)), .int a, .int b] : List Value).toArray s 0 0 (fun _ => False)) (F0 mi 15 ls []) := by
    intro d
    induction d with
    | zero =>
      intro j hj ls hl hf
      refine lv_iload hx hb dX5_isWord_15 (lv_at hl 0 rfl) ?_
      refine lv_aload_n hx hb dX5_isWord_17 rfl (lv_at hl 2 rfl) ?_
      refine LEN 18 ls _ _ hl.1 dX5_isWord_18 (Nat.le_of_ble_eq_true rfl) ?_
      refine lv_icmp_ge (tgt := 49) hx hb dX5_isWord_21 (by decide) (fun c => ?_) (fun c => absurd (nI_le (by omega) (by omega)) c)
      refine lv_iconst (v := 1) hx hb dX5_isWord_49 (by decide) ?_
      exact e_rz C0 (b := true) rfl hf.symm dX5_isWord_50
    | succ d ih =>
      intro j hj ls hl hf
      have hjn : j < cmL.getD i 0 := by omega
      refine lv_iload hx hb dX5_isWord_15 (lv_at hl 0 rfl) ?_
      refine lv_aload_n hx hb dX5_isWord_17 rfl (lv_at hl 2 rfl) ?_
      refine LEN 18 ls _ _ hl.1 dX5_isWord_18 (Nat.le_of_ble_eq_true rfl) ?_
      refine lv_icmp_ge (tgt := 49) hx hb dX5_isWord_21 (by decide) (fun c => absurd c (nI_ge (by omega) (by omega))) (fun c => ?_)
      refine lv_aload_n hx hb dX5_isWord_24 rfl (lv_at hl 2 rfl) ?_
      refine lv_iload hx hb dX5_isWord_25 (lv_at hl 0 rfl) ?_
      refine gro_i (va_runV (As := [.int (nI j)]) (rest := []) ⟨hx, hb, hml, hown, hts⟩ (mJ0_charAt l dC dI cI cB cO cL N0 sT eA i j hi hjn) (cwV 1 hts gX5_isWord_J0_charAt_5068e rfl rfl rfl (by decide +kernel) ⟨Nat.le_of_ble_eq_true rfl, Nat.le_of_ble_eq_true rfl⟩) ⟨fP_blind, vk_recv hT hi hS, fP_ok va_P_nil hK hF hS hN⟩ rfl rfl hl.1 rfl (lv_room (Nat.le_of_ble_eq_true rfl)) dX5_isWord_27 ⟨Nat.zero_le _, Nat.zero_le _⟩) ?_
      refine lv_aload_n hx hb dX5_isWord_30 rfl (lv_at hl 1 rfl) ?_
      refine lv_iload_n hx hb dX5_isWord_31 rfl (lv_at hl 3 rfl) ?_
      refine lv_iload hx hb dX5_isWord_32 (lv_at hl 0 rfl) ?_
      refine lv_iadd hx hb dX5_isWord_34 ?_
      refine gro_i (va_runV (As := [.int (a + nI j)]) (rest := [.int ((cmB.getD i []).getD j 0)]) ⟨hx, hb, hml, hown, hts⟩ (mX5_byteAt l dC dI cI cB cO cL qx x (a + nI j) (byteAt_k x _)) (cwV 1 hts gX5_isWord_X5_byteAt rfl rfl rfl (by decide +kernel) ⟨Nat.le_of_ble_eq_true rfl, Nat.le_of_ble_eq_true rfl⟩) ⟨cP_blind, va_recv hK hP (ci := 3) (q0 := 0) rfl rfl, cP_ok hP hK hE⟩ rfl rfl hl.1 rfl (lv_room (Nat.le_of_ble_eq_true rfl)) dX5_isWord_35 ⟨Nat.zero_le _, Nat.zero_le _⟩) ?_
      have hf : pX5_isWord x i a b = if (cmB.getD i []).getD j 0 = pX5_byteAt x (a + nI j) then wdF x i a d (j + 1) else false := hf
      refine lv_icmp_eq (tgt := 43) hx hb dX5_isWord_38 (by decide) (fun c => ?_) (fun c => ?_)
      · obtain ⟨y, ey⟩ : ∃ y : Int32, y = nI j + 1 := ⟨_, rfl⟩
        refine lv_iinc (v := y) (lv' := [(4, .int y), (0, .ref (qx 0)), (1, .ref (sT (10 + i))), (2, .int a), (3, .int b)]) hx hb dX5_isWord_43 hl (k := 0) rfl (by rw [ey]; rfl) (by decide) rfl (fun ls hl => ?_)
        refine lv_goto (tgt := 15) hx hb dX5_isWord_46 (by decide) ?_
        rw [ey, nI_1] at hl
        exact ih (j + 1) (by omega) ls hl (it_eq c hf)
      · refine lv_iconst (v := 0) hx hb dX5_isWord_41 (by decide) ?_
        exact e_rz C0 (b := false) rfl (ie_eq c hf).symm dX5_isWord_42
  have hf : pX5_isWord x i a b = if nI n = b - a then wdF x i a n 0 else false := by rw [hn]; rfl
  refine lv_aload_n hx hb dX5_isWord_0 rfl (lv_at hl 1 rfl) ?_
  refine LEN 1 ls _ _ hl.1 dX5_isWord_1 (by decide) ?_
  refine lv_iload_n hx hb dX5_isWord_4 rfl (lv_at hl 3 rfl) ?_
  refine lv_iload_n hx hb dX5_isWord_5 rfl (lv_at hl 2 rfl) ?_
  refine lv_isub hx hb dX5_isWord_6 ?_
  refine lv_icmp_eq (tgt := 12) hx hb dX5_isWord_7 (by decide) (fun c => ?_) (fun c => ?_)
  · refine lv_iconst (v := 0) hx hb dX5_isWord_12 (by decide) ?_
    refine lv_istore (lv' := [(4, .int 0), (0, .ref (qx 0)), (1, .ref (sT (10 + i))), (2, .int a), (3, .int b)]) hx hb dX5_isWord_13 hl (by decide) rfl (fun ls hl => ?_)
    exact J_15 n 0 (by omega) ls hl (it_eq c hf)
  · refine lv_iconst (v := 0) hx hb dX5_isWord_10 (by decide) ?_
    exact e_rz C0 (b := false) rfl (ie_eq c hf).symm dX5_isWord_11
set_option maxHeartbeats 4000000 in
set_option maxRecDepth 100000 in
theorem mX5_commandAt (l : Launch) (dC : Nat → ClassId) (dI : Nat → Nat → Nat) (cI cB cO cL : ClassId) (N0 : Nat) (sT eA : Nat → Nat) (qx : Nat → Nat) (x : TS) (a b : Int32) : Met l yX5_commandAt wsX5_commandAt (rJ0 5 109) (fP N0 sT eA (dC, dI) (tYS cI cB cO cL) (xw qx cI x) [.ref (qx 0), .int a, .int b]) (gRe eA (pX5_commandAt x a b)) 0 0 (fun _ => False) := by
  refine fMet (cc := cX5_commandAt) (maxL := 7) (ret := some (.object "ClickBench$Command")) [(0, .ref (qx 0)), (1, .int a), (2, .int b)] (by decide) rfl rfl rfl ?_
  intro p e s mi below meth c C0 hK hF hP ls hl
  obtain ⟨hx, hb, hr, hml, hown, hts, hlocks⟩ := id C0
  have hown : s.vm.findClass RX5 = some mi.cls := hown
  have hE := hF.1
  have hN : ∀ q : Nat, (fun _ : Nat => False) q → N0 ≤ q := fun _ h => h.elim
  have hS : va_S (fun _ : Nat => False) s.heap s.heap [] := va_S.rf
  have hH := hF.2.2.narrow hN
  obtain ⟨hW, hT, hCo, hSi⟩ := hH.2.2.2.2.2.2.2.1
  obtain ⟨hA1, hA2⟩ := hH.2.2.2.2.2.2.1
  have flw := hts (.fieldLink RX5 34 "ClickBench$Command" "word" "Ljava/lang/String;") (by decide +kernel)
  have J_11 : ∀ (d j : Nat), j + d = 7 → ∀ ls : Array Slot, lv_has ls 7 [(5, .int (nI j)), (4, .int 7), (3, .ref (sT 5)), (0, .ref (qx 0)), (1, .int a), (2, .int b)] → pX5_commandAt x a b = caF x a b d j → W p l e (rJ0 5 109) s mi ([.ref (qx 0), .int a, .int b] : List Value).toArray below meth c s.heap [] 0 0 (MQ below (gRe eA (pX5_commandAt x a b)) ([.ref (qx 0), .int a, .int b] : List Value).toArray s 0 0 (fun _ => False)) (F0 mi 11 ls []) := by
    intro d
    induction d with
    | zero =>
      intro j hj ls hl hf
      refine lv_iload hx hb dX5_commandAt_11 (lv_at hl 0 rfl) ?_
      refine lv_iload hx hb dX5_commandAt_13 (lv_at hl 1 rfl) ?_
      refine lv_icmp_ge (tgt := 52) hx hb dX5_commandAt_15 (by decide) (fun c => ?_) (fun c => absurd (show (7 : Int32) ≤ nI j from nI_le (a := 7) (by omega) (by omega)) c)
      refine lv_null hx hb dX5_commandAt_52 ?_
      exact e_re C0 (r := none) hf.symm dX5_commandAt_53
    | succ d ih =>
      intro j hj ls hl hf
      have hj7 : j < 7 := by omega
      refine lv_iload hx hb dX5_commandAt_11 (lv_at hl 0 rfl) ?_
      refine lv_iload hx hb dX5_commandAt_13 (lv_at hl 1 rfl) ?_
      refine lv_icmp_ge (tgt := 52) hx hb dX5_commandAt_15 (by decide) (fun c => absurd c (show ¬ (7 : Int32) ≤ nI j from nI_ge (b := 7) hj7 (by omega))) (fun c => ?_)
      refine lv_aload_n hx hb dX5_commandAt_18 rfl (lv_at hl 2 rfl) ?_
      refine lv_iload hx hb dX5_commandAt_19 (lv_at hl 0 rfl) ?_
      refine vb_tq hx hb hA2 hS (vp_in_n hj7 (by omega)) (v := .ref (eA j)) (by show Value.ref (eA (nI j).toNatClampNeg) = _; rw [nI_clamp (by omega)]) dX5_commandAt_21 ?_
      refine lv_astore (lv' := [(6, .ref (eA j)), (5, .int (nI j)), (4, .int 7), (3, .ref (sT 5)), (0, .ref (qx 0)), (1, .int a), (2, .int b)]) hx hb dX5_commandAt_22 hl (by decide) rfl (fun ls hl => ?_)
      refine lv_aload hx hb dX5_commandAt_24 (lv_at hl 0 rfl) ?_
      refine lv_ifnull hx hb dX5_commandAt_26 ?_
      refine lv_aload_n hx hb dX5_commandAt_29 rfl (lv_at hl 4 rfl) ?_
      refine lv_aload hx hb dX5_commandAt_30 (lv_at hl 0 rfl) ?_
      refine va_getX hx hb hW (i := j) hj7 hS hown flw (fun _ h => h) dX5_commandAt_32 ?_
      refine lv_iload_n hx hb dX5_commandAt_35 rfl (lv_at hl 5 rfl) ?_
      refine lv_iload_n hx hb dX5_commandAt_36 rfl (lv_at hl 6 rfl) ?_
      refine gro_i (va_runV (As := [.ref (sT (10 + j)), .int a, .int b]) (rest := []) ⟨hx, hb, hml, hown, hts⟩ (mX5_isWord l dC dI cI cB cO cL N0 sT eA qx x j hj7 a b) (cwV 3 hts gX5_commandAt_X5_isWord rfl rfl rfl (by decide +kernel) ⟨Nat.le_of_ble_eq_true rfl, Nat.le_of_ble_eq_true rfl⟩) ⟨fP_blind, va_recv hK hP (ci := 3) (q0 := 0) rfl rfl, fP_ok hP hK hF hS hN⟩ rfl rfl hl.1 rfl (lv_room (Nat.le_of_ble_eq_true rfl)) dX5_commandAt_37 ⟨Nat.zero_le _, Nat.zero_le _⟩) ?_
      have hf : pX5_commandAt x a b = if pX5_isWord x j a b = true then some j else caF x a b d (j + 1) := hf
      refine lv_if_eq (tgt := 46) hx hb dX5_commandAt_40 (by decide) (fun c => ?_) (fun c => ?_)
      · have c := bz_f c
        obtain ⟨y, ey⟩ : ∃ y : Int32, y = nI j + 1 := ⟨_, rfl⟩
        refine lv_iinc (v := y) (lv' := [(5, .int y), (6, .ref (eA j)), (4, .int 7), (3, .ref (sT 5)), (0, .ref (qx 0)), (1, .int a), (2, .int b)]) hx hb dX5_commandAt_46 hl (k := 1) rfl (by rw [ey]; rfl) (by decide) rfl (fun ls hl => ?_)
        refine lv_goto (tgt := 11) hx hb dX5_commandAt_49 (by decide) ?_
        rw [ey, nI_1] at hl
        exact ih (j + 1) (by omega) ls (lv_sub hl [0, 2, 3, 4, 5, 6] rfl) (ie_eq c hf)
      · have c := bz_t c
        refine lv_aload hx hb dX5_commandAt_43 (lv_at hl 0 rfl) ?_
        exact e_re C0 (r := some j) (it_eq c hf).symm dX5_commandAt_45
  refine va_getsN hx hb hA1 hS hown (va_Nw.use rfl (hF.2.1.at (own := RX5) (idx := 28) (r := "ClickBench$Command") (n := "ALL") (d := "[LClickBench$Command;") (host := "ClickBench") (by decide +kernel))) (fun _ h => h) dX5_commandAt_0 ?_
  refine lv_astore_n (lv' := [(3, .ref (sT 5)), (0, .ref (qx 0)), (1, .int a), (2, .int b)]) hx hb dX5_commandAt_3 rfl hl (by decide) rfl (fun ls hl => ?_)
  refine lv_aload_n hx hb dX5_commandAt_4 rfl (lv_at hl 0 rfl) ?_
  refine va_tlen hx hb hA2 hS (v := 7) rfl dX5_commandAt_5 ?_
  refine lv_istore (lv' := [(4, .int 7), (3, .ref (sT 5)), (0, .ref (qx 0)), (1, .int a), (2, .int b)]) hx hb dX5_commandAt_6 hl (by decide) rfl (fun ls hl => ?_)
  refine lv_iconst (v := 0) hx hb dX5_commandAt_8 (by decide) ?_
  refine lv_istore (lv' := [(5, .int 0), (4, .int 7), (3, .ref (sT 5)), (0, .ref (qx 0)), (1, .int a), (2, .int b)]) hx hb dX5_commandAt_9 hl (by decide) rfl (fun ls hl => ?_)
  exact J_11 7 0 rfl ls hl rfl
end WORDS
