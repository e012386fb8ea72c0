/-! THE LAW: its small methods -/
noncomputable def pL_low (a1 : Int32) (a2 : Int32) : Int32 := (a1 &&& 2147483647) - (a1 &&& 2147483647) / a2 * a2
def kL_low (a1 : Int32) (a2 : Int32) : Prop := ¬ a2 = 0
abbrev rL_low : Room := { frames := 0, cells := 0, slots := 0, locals := 0 }
set_option maxHeartbeats 4000000 in
set_option maxRecDepth 100000 in
theorem mL_low (l : Launch) (dC : Nat → ClassId) (dI : Nat → Nat → Nat) (cI cB cO cL : ClassId)  (a1 : Int32) (a2 : Int32) (hok : kL_low a1 a2) : Met l yL_low wsL_low rL_low (gP (dC, dI) (tYS cI cB cO cL) ([]) [.int a1, .int a2]) (gRi (pL_low a1 a2)) 0 0 (fun _ => False) := by
  refine gMet (cc := cL_low) (maxL := 2) (ret := some .int) [(0, .int a1), (1, .int a2)] (by decide) rfl rfl rfl ?_
  intro p e s mi below meth c C0 hK hP ls hl
  obtain ⟨hx, hb, hr, hml, hown, hts, hlocks⟩ := id C0
  have hown : s.vm.findClass RL = some mi.cls := hown
  obtain ⟨F, hF⟩ : ∃ F, F = pL_low a1 a2 := ⟨_, rfl⟩
  have hf := hF
  have cn8 := hts (.constant RL 8 (2147483647)) (by decide +kernel)
  refine lv_iload_n hx hb dL_low_0 rfl (lv_at hl 0 rfl) ?_
  refine lv_ldc (v := 2147483647) hx hb hown cn8 dL_low_1 ?_
  refine lv_iand hx hb dL_low_3 ?_
  refine lv_iload_n hx hb dL_low_4 rfl (lv_at hl 1 rfl) ?_
  have h1 : ¬ a2 = 0 := hok
  refine lv_irem hx hb dL_low_5 h1 ?_
  exact e_ri C0 (hf.symm.trans hF) dL_low_6
noncomputable def pL_root_L27  (q_6 : Int32 → Int32 → Int32 → Int32) (v0_27 : Int32) (v2_27 : Int32) (t0_27 : Int32) (t1_27 : Int32) : Int32 := lt (t0_27 + t1_27) fun (x3 : Int32) => lt (v2_27 / 2) fun (x4 : Int32) => q_6 v0_27 x3 x4
def kL_root_L27  (Q_6 : Int32 → Int32 → Int32 → Prop) (v0_27 : Int32) (v2_27 : Int32) (t0_27 : Int32) (t1_27 : Int32) : Prop := lt (t0_27 + t1_27) fun (x3 : Int32) => lt (v2_27 / 2) fun (x4 : Int32) => Q_6 v0_27 x3 x4
noncomputable def bL_root_L6   (q_6 : Int32 → Int32 → Int32 → Int32) (v0_6 : Int32) (v1_6 : Int32) (v2_6 : Int32) : Int32 := if v2_6 ≤ 0 then (v1_6) else (if v0_6 < ((v1_6 + v2_6) * (v1_6 + v2_6)) then (pL_root_L27 q_6 v0_6 v2_6 v1_6 0) else (pL_root_L27 q_6 v0_6 v2_6 v1_6 v2_6))
noncomputable def pL_root_L6   : Nat → Int32 → Int32 → Int32 → Int32
  | 0 => fun _ _ _ => (0)
  | n + 1 => bL_root_L6   (pL_root_L6   n)
def kbL_root_L6   (Q_6 : Int32 → Int32 → Int32 → Prop) (v0_6 : Int32) (v1_6 : Int32) (v2_6 : Int32) : Prop := if v2_6 ≤ 0 then (True) else (if v0_6 < ((v1_6 + v2_6) * (v1_6 + v2_6)) then (kL_root_L27 Q_6 v0_6 v2_6 v1_6 0) else (kL_root_L27 Q_6 v0_6 v2_6 v1_6 v2_6))
noncomputable def kL_root_L6   : Nat → Int32 → Int32 → Int32 → Prop
  | 0 => fun _ _ _ => False
  | n + 1 => kbL_root_L6   (kL_root_L6   n)
noncomputable def pL_root (a1 : Int32) : Int32 := pL_root_L6 fu a1 0 16384
def kL_root (a1 : Int32) : Prop := kL_root_L6 fu a1 0 16384
abbrev rL_root : Room := { frames := 0, cells := 0, slots := 0, locals := 0 }
set_option maxHeartbeats 4000000 in
set_option maxRecDepth 100000 in
theorem mL_root (l : Launch) (dC : Nat → ClassId) (dI : Nat → Nat → Nat) (cI cB cO cL : ClassId)  (a1 : Int32) (hok : kL_root a1) : Met l yL_root wsL_root rL_root (gP (dC, dI) (tYS cI cB cO cL) ([]) [.int a1]) (gRi (pL_root a1)) 0 0 (fun _ => False) := by
  refine gMet (cc := cL_root) (maxL := 3) (ret := some .int) [(0, .int a1)] (by decide) rfl rfl rfl ?_
  intro p e s mi below meth c C0 hK hP ls hl
  obtain ⟨hx, hb, hr, hml, hown, hts, hlocks⟩ := id C0
  have hown : s.vm.findClass RL = some mi.cls := hown
  obtain ⟨F, hF⟩ : ∃ F, F = pL_root a1 := ⟨_, rfl⟩
  have hf := hF
  have J_6 : ∀ (n_6 : Nat) (v0_6 : Int32) (v1_6 : Int32) (v2_6 : Int32), ∀ ls : Array Slot, lv_has ls 3 [(0, .int v0_6), (1, .int v1_6), (2, .int v2_6)] → F = pL_root_L6 n_6 v0_6 v1_6 v2_6 → kL_root_L6 n_6 v0_6 v1_6 v2_6 → W p l e rL_root s mi ([.int a1] : List Value).toArray below meth c s.heap [] 0 0 (MQ below (gRi (pL_root a1)) ([.int a1] : List Value).toArray s 0 0 (fun _ => False)) (F0 mi 6 ls []) := by
    intro n_6
    induction n_6 with
    | zero =>
      intro v0_6 v1_6 v2_6 ls hl hf hok
      exact absurd hok (fun h => h)
    | succ n_6 ih_6 =>
      have J_27 : ∀ (v0_27 : Int32) (v2_27 : Int32) (t0_27 : Int32) (t1_27 : Int32), ∀ ls : Array Slot, lv_has ls 3 [(0, .int v0_27), (2, .int v2_27)] → F = pL_root_L27 (pL_root_L6 n_6) v0_27 v2_27 t0_27 t1_27 → kL_root_L27 (kL_root_L6 n_6) v0_27 v2_27 t0_27 t1_27 → W p l e rL_root s mi ([.int a1] : List Value).toArray below meth c s.heap [] 0 0 (MQ below (gRi (pL_root a1)) ([.int a1] : List Value).toArray s 0 0 (fun _ => False)) (F0 mi 27 ls [.int t1_27, .int t0_27]) := by
        intro v0_27 v2_27 t0_27 t1_27 ls hl hf hok
        refine lv_iadd hx hb dL_root_27 ?_
        refine lv_topi (fun x3 ex3 => ?_)
        have hf := lt_eq ex3 hf
        have hok := lt_ok ex3 hok
        refine lv_istore_n (lv' := [(1, .int x3), (0, .int v0_27), (2, .int v2_27)]) hx hb dL_root_28 rfl hl (by decide) rfl (fun ls hl => ?_)
        refine lv_iload_n hx hb dL_root_29 rfl (lv_at hl 2 rfl) ?_
        refine lv_iconst (v := 2) hx hb dL_root_30 (by decide) ?_
        refine lv_idiv hx hb dL_root_31 (by decide) ?_
        refine lv_topi (fun x4 ex4 => ?_)
        have hf := lt_eq ex4 hf
        have hok := lt_ok ex4 hok
        refine lv_istore_n (lv' := [(2, .int x4), (1, .int x3), (0, .int v0_27)]) hx hb dL_root_32 rfl hl (by decide) rfl (fun ls hl => ?_)
        refine lv_goto (tgt := 6) hx hb dL_root_33 (by decide) ?_
        exact ih_6 v0_27 x3 x4 _ (lv_sub hl [2, 1, 0] rfl) hf hok
      intro v0_6 v1_6 v2_6 ls hl hf hok
      have hf : F = bL_root_L6 (pL_root_L6 n_6) v0_6 v1_6 v2_6 := hf
      have hok : kbL_root_L6 (kL_root_L6 n_6) v0_6 v1_6 v2_6 := hok
      refine lv_iload_n hx hb dL_root_6 rfl (lv_at hl 2 rfl) ?_
      refine lv_if_le (tgt := 36) hx hb dL_root_7 (by decide) (fun c1 => ?_) (fun c1 => ?_)
      · have hf := it_eq c1 hf
        refine lv_iload_n hx hb dL_root_36 rfl (lv_at hl 1 rfl) ?_
        exact e_ri C0 (hf.symm.trans hF) dL_root_37
      · have hf := ie_eq c1 hf
        have hok := ie_ok c1 hok
        refine lv_iload_n hx hb dL_root_10 rfl (lv_at hl 1 rfl) ?_
        refine lv_iload_n hx hb dL_root_11 rfl (lv_at hl 1 rfl) ?_
        refine lv_iload_n hx hb dL_root_12 rfl (lv_at hl 2 rfl) ?_
        refine lv_iadd hx hb dL_root_13 ?_
        refine lv_iload_n hx hb dL_root_14 rfl (lv_at hl 1 rfl) ?_
        refine lv_iload_n hx hb dL_root_15 rfl (lv_at hl 2 rfl) ?_
        refine lv_iadd hx hb dL_root_16 ?_
        refine lv_imul hx hb dL_root_17 ?_
        refine lv_iload_n hx hb dL_root_18 rfl (lv_at hl 0 rfl) ?_
        refine lv_icmp_gt (tgt := 26) hx hb dL_root_19 (by decide) (fun c2 => ?_) (fun c2 => ?_)
        · have hf := it_eq c2 hf
          have hok := it_ok c2 hok
          refine lv_iconst (v := 0) hx hb dL_root_26 (by decide) ?_
          exact J_27 v0_6 v2_6 v1_6 0 _ (lv_sub hl [0, 2] rfl) hf hok
        · have hf := ie_eq c2 hf
          have hok := ie_ok c2 hok
          refine lv_iload_n hx hb dL_root_22 rfl (lv_at hl 2 rfl) ?_
          refine lv_goto (tgt := 27) hx hb dL_root_23 (by decide) ?_
          exact J_27 v0_6 v2_6 v1_6 v2_6 _ (lv_sub hl [0, 2] rfl) hf hok
  refine lv_iconst (v := 0) hx hb dL_root_0 (by decide) ?_
  refine lv_istore_n (lv' := [(1, .int 0), (0, .int a1)]) hx hb dL_root_1 rfl hl (by decide) rfl (fun ls hl => ?_)
  refine lv_sipush (v := 16384) hx hb dL_root_2 (by decide) ?_
  refine lv_istore_n (lv' := [(2, .int 16384), (1, .int 0), (0, .int a1)]) hx hb dL_root_5 rfl hl (by decide) rfl (fun ls hl => ?_)
  exact J_6 fu a1 0 16384 _ (lv_sub hl [2, 1, 0] rfl) hf hok
noncomputable def pL_takesUp (a1 : Int32) (a2 : Int32) (a3 : Int32) (a4 : Int32) (a5 : Int32) (a6 : Int32) (a7 : Int32) : Bool := lt ((a6 - a4).toInt64) fun (x1 : Int64) => lt ((((a6 - a1).toInt64) * a5.toInt64) + (((a1 - a4).toInt64) * a7.toInt64)) fun (x2 : Int64) => if a1 ≤ a4 then (false) else (if a6 ≤ a1 then (false) else (if x2 < (a2.toInt64 * x1) then (false) else (if (a3.toInt64 * x1) < x2 then (false) else (true))))
abbrev rL_takesUp : Room := { frames := 0, cells := 0, slots := 0, locals := 0 }
set_option maxHeartbeats 4000000 in
set_option maxRecDepth 100000 in
theorem mL_takesUp (l : Launch) (dC : Nat → ClassId) (dI : Nat → Nat → Nat) (cI cB cO cL : ClassId)  (a1 : Int32) (a2 : Int32) (a3 : Int32) (a4 : Int32) (a5 : Int32) (a6 : Int32) (a7 : Int32) : Met l yL_takesUp wsL_takesUp rL_takesUp (gP (dC, dI) (tYS cI cB cO cL) ([]) [.int a1, .int a2, .int a3, .int a4, .int a5, .int a6, .int a7]) (gRz (pL_takesUp a1 a2 a3 a4 a5 a6 a7)) 0 0 (fun _ => False) := by
  refine gMet (cc := cL_takesUp) (maxL := 11) (ret := some .boolean) [(0, .int a1), (1, .int a2), (2, .int a3), (3, .int a4), (4, .int a5), (5, .int a6), (6, .int a7)] (by decide) rfl rfl rfl ?_
  intro p e s mi below meth c C0 hK hP ls hl
  obtain ⟨hx, hb, hr, hml, hown, hts, hlocks⟩ := id C0
  have hown : s.vm.findClass RL = some mi.cls := hown
  obtain ⟨F, hF⟩ : ∃ F, F = pL_takesUp a1 a2 a3 a4 a5 a6 a7 := ⟨_, rfl⟩
  have hf := hF
  refine lv_iload hx hb dL_takesUp_0 (lv_at hl 5 rfl) ?_
  refine lv_iload_n hx hb dL_takesUp_2 rfl (lv_at hl 3 rfl) ?_
  refine lv_isub hx hb dL_takesUp_3 ?_
  refine lv_i2l hx hb dL_takesUp_4 rfl ?_
  refine lv_topl (fun x1 ex1 => ?_)
  have hf := lt_eq ex1 hf
  refine lv_lstore (lv' := [(7, .long x1), (0, .int a1), (1, .int a2), (2, .int a3), (3, .int a4), (4, .int a5), (5, .int a6), (6, .int a7)]) hx hb dL_takesUp_5 hl (by decide) rfl (fun ls hl => ?_)
  refine lv_iload hx hb dL_takesUp_7 (lv_at hl 6 rfl) ?_
  refine lv_iload_n hx hb dL_takesUp_9 rfl (lv_at hl 1 rfl) ?_
  refine lv_isub hx hb dL_takesUp_10 ?_
  refine lv_i2l hx hb dL_takesUp_11 rfl ?_
  refine lv_iload hx hb dL_takesUp_12 (lv_at hl 5 rfl) ?_
  refine lv_i2l hx hb dL_takesUp_14 rfl ?_
  refine lv_lmul hx hb dL_takesUp_15 ?_
  refine lv_iload_n hx hb dL_takesUp_16 rfl (lv_at hl 1 rfl) ?_
  refine lv_iload_n hx hb dL_takesUp_17 rfl (lv_at hl 4 rfl) ?_
  refine lv_isub hx hb dL_takesUp_18 ?_
  refine lv_i2l hx hb dL_takesUp_19 rfl ?_
  refine lv_iload hx hb dL_takesUp_20 (lv_at hl 7 rfl) ?_
  refine lv_i2l hx hb dL_takesUp_22 rfl ?_
  refine lv_lmul hx hb dL_takesUp_23 ?_
  refine lv_ladd hx hb dL_takesUp_24 ?_
  refine lv_topl (fun x2 ex2 => ?_)
  have hf := lt_eq ex2 hf
  refine lv_lstore (lv' := [(9, .long x2), (7, .long x1), (0, .int a1), (1, .int a2), (2, .int a3), (3, .int a4), (4, .int a5), (5, .int a6), (6, .int a7)]) hx hb dL_takesUp_25 hl (by decide) rfl (fun ls hl => ?_)
  refine lv_iload_n hx hb dL_takesUp_27 rfl (lv_at hl 5 rfl) ?_
  refine lv_iload_n hx hb dL_takesUp_28 rfl (lv_at hl 2 rfl) ?_
  refine lv_icmp_ge (tgt := 64) hx hb dL_takesUp_29 (by decide) (fun c3 => ?_) (fun c3 => ?_)
  · have hf := it_eq c3 hf
    refine lv_iconst (v := 0) hx hb dL_takesUp_64 (by decide) ?_
    exact e_rz C0 (b := false) rfl (hf.symm.trans hF) dL_takesUp_65
  · have hf := ie_eq c3 hf
    refine lv_iload_n hx hb dL_takesUp_32 rfl (lv_at hl 2 rfl) ?_
    refine lv_iload hx hb dL_takesUp_33 (lv_at hl 7 rfl) ?_
    refine lv_icmp_ge (tgt := 64) hx hb dL_takesUp_35 (by decide) (fun c4 => ?_) (fun c4 => ?_)
    · have hf := it_eq c4 hf
      refine lv_iconst (v := 0) hx hb dL_takesUp_64 (by decide) ?_
      exact e_rz C0 (b := false) rfl (hf.symm.trans hF) dL_takesUp_65
    · have hf := ie_eq c4 hf
      refine lv_lload hx hb dL_takesUp_38 (lv_at hl 0 rfl) ?_
      refine lv_iload_n hx hb dL_takesUp_40 rfl (lv_at hl 3 rfl) ?_
      refine lv_i2l hx hb dL_takesUp_41 rfl ?_
      refine lv_lload hx hb dL_takesUp_42 (lv_at hl 1 rfl) ?_
      refine lv_lmul hx hb dL_takesUp_44 ?_
      refine W.lcmp hx hb dL_takesUp_45 ?_
      refine lv_if_lt (tgt := 64) hx hb dL_takesUp_46 (by decide) (fun c5 => ?_) (fun c5 => ?_)
      · have c5 := (lg_cmp_lt _ _).mp c5
        have hf := it_eq c5 hf
        refine lv_iconst (v := 0) hx hb dL_takesUp_64 (by decide) ?_
        exact e_rz C0 (b := false) rfl (hf.symm.trans hF) dL_takesUp_65
      · have c5 := fun h => c5 ((lg_cmp_lt _ _).mpr h)
        have hf := ie_eq c5 hf
        refine lv_lload hx hb dL_takesUp_49 (lv_at hl 0 rfl) ?_
        refine lv_iload_n hx hb dL_takesUp_51 rfl (lv_at hl 4 rfl) ?_
        refine lv_i2l hx hb dL_takesUp_52 rfl ?_
        refine lv_lload hx hb dL_takesUp_53 (lv_at hl 1 rfl) ?_
        refine lv_lmul hx hb dL_takesUp_55 ?_
        refine W.lcmp hx hb dL_takesUp_56 ?_
        refine lv_if_gt (tgt := 64) hx hb dL_takesUp_57 (by decide) (fun c6 => ?_) (fun c6 => ?_)
        · have c6 := (lg_cmp_gt _ _).mp c6
          have hf := it_eq c6 hf
          refine lv_iconst (v := 0) hx hb dL_takesUp_64 (by decide) ?_
          exact e_rz C0 (b := false) rfl (hf.symm.trans hF) dL_takesUp_65
        · have c6 := fun h => c6 ((lg_cmp_gt _ _).mpr h)
          have hf := ie_eq c6 hf
          refine lv_iconst (v := 1) hx hb dL_takesUp_60 (by decide) ?_
          refine lv_goto (tgt := 65) hx hb dL_takesUp_61 (by decide) ?_
          exact e_rz C0 (b := true) rfl (hf.symm.trans hF) dL_takesUp_65
noncomputable def pL_takes (a1 : Int32) (a2 : Int32) (a3 : Int32) (a4 : Int32) (a5 : Int32) (a6 : Int32) (a7 : Int32) : Bool := if a4 ≤ a6 then (pL_takesUp a1 a2 a3 a4 a5 a6 a7) else (pL_takesUp a1 a2 a3 a6 a7 a4 a5)
abbrev rL_takes : Room := { frames := 1, cells := 0, slots := 0, locals := 30 }
set_option maxHeartbeats 4000000 in
set_option maxRecDepth 100000 in
theorem mL_takes (l : Launch) (dC : Nat → ClassId) (dI : Nat → Nat → Nat) (cI cB cO cL : ClassId)  (a1 : Int32) (a2 : Int32) (a3 : Int32) (a4 : Int32) (a5 : Int32) (a6 : Int32) (a7 : Int32) : Met l yL_takes wsL_takes rL_takes (gP (dC, dI) (tYS cI cB cO cL) ([]) [.int a1, .int a2, .int a3, .int a4, .int a5, .int a6, .int a7]) (gRz (pL_takes a1 a2 a3 a4 a5 a6 a7)) 0 0 (fun _ => False) := by
  refine gMet (cc := cL_takes) (maxL := 7) (ret := some .boolean) [(0, .int a1), (1, .int a2), (2, .int a3), (3, .int a4), (4, .int a5), (5, .int a6), (6, .int a7)] (by decide) rfl rfl rfl ?_
  intro p e s mi below meth c C0 hK hP ls hl
  obtain ⟨hx, hb, hr, hml, hown, hts, hlocks⟩ := id C0
  have hown : s.vm.findClass RL = some mi.cls := hown
  obtain ⟨F, hF⟩ : ∃ F, F = pL_takes a1 a2 a3 a4 a5 a6 a7 := ⟨_, rfl⟩
  have hf := hF
  refine lv_iload_n hx hb dL_takes_0 rfl (lv_at hl 3 rfl) ?_
  refine lv_iload hx hb dL_takes_1 (lv_at hl 5 rfl) ?_
  refine lv_icmp_le (tgt := 20) hx hb dL_takes_3 (by decide) (fun c1 => ?_) (fun c1 => ?_)
  · have hf := it_eq c1 hf
    refine lv_iload_n hx hb dL_takes_20 rfl (lv_at hl 0 rfl) ?_
    refine lv_iload_n hx hb dL_takes_21 rfl (lv_at hl 1 rfl) ?_
    refine lv_iload_n hx hb dL_takes_22 rfl (lv_at hl 2 rfl) ?_
    refine lv_iload_n hx hb dL_takes_23 rfl (lv_at hl 3 rfl) ?_
    refine lv_iload hx hb dL_takes_24 (lv_at hl 4 rfl) ?_
    refine lv_iload hx hb dL_takes_26 (lv_at hl 5 rfl) ?_
    refine lv_iload hx hb dL_takes_28 (lv_at hl 6 rfl) ?_
    refine gro_i (va_runS (As := [.int a1, .int a2, .int a3, .int a4, .int a5, .int a6, .int a7]) (rest := []) ⟨hx, hb, hml, hown, hts⟩ (mL_takesUp l dC dI cI cB cO cL  a1 a2 a3 a4 a5 a6 a7  ) (va_cwS 7 hts gL_takes_L_takesUp rfl rfl rfl (by decide +kernel) ⟨Nat.le_of_ble_eq_true rfl, Nat.le_of_ble_eq_true rfl⟩) ⟨gP_blind, gP_ok va_P_nil hK⟩ rfl rfl hl.1 rfl (lv_room (Nat.le_of_ble_eq_true rfl)) dL_takes_30 ⟨Nat.zero_le _, Nat.zero_le _⟩) ?_
    exact e_rz C0 (b := (pL_takesUp a1 a2 a3 a4 a5 a6 a7)) rfl (hf.symm.trans hF) dL_takes_33
  · have hf := ie_eq c1 hf
    refine lv_iload_n hx hb dL_takes_6 rfl (lv_at hl 0 rfl) ?_
    refine lv_iload_n hx hb dL_takes_7 rfl (lv_at hl 1 rfl) ?_
    refine lv_iload_n hx hb dL_takes_8 rfl (lv_at hl 2 rfl) ?_
    refine lv_iload hx hb dL_takes_9 (lv_at hl 5 rfl) ?_
    refine lv_iload hx hb dL_takes_11 (lv_at hl 6 rfl) ?_
    refine lv_iload_n hx hb dL_takes_13 rfl (lv_at hl 3 rfl) ?_
    refine lv_iload hx hb dL_takes_14 (lv_at hl 4 rfl) ?_
    refine gro_i (va_runS (As := [.int a1, .int a2, .int a3, .int a6, .int a7, .int a4, .int a5]) (rest := []) ⟨hx, hb, hml, hown, hts⟩ (mL_takesUp l dC dI cI cB cO cL  a1 a2 a3 a6 a7 a4 a5  ) (va_cwS 7 hts gL_takes_L_takesUp rfl rfl rfl (by decide +kernel) ⟨Nat.le_of_ble_eq_true rfl, Nat.le_of_ble_eq_true rfl⟩) ⟨gP_blind, gP_ok va_P_nil hK⟩ rfl rfl hl.1 rfl (lv_room (Nat.le_of_ble_eq_true rfl)) dL_takes_16 ⟨Nat.zero_le _, Nat.zero_le _⟩) ?_
    exact e_rz C0 (b := (pL_takesUp a1 a2 a3 a6 a7 a4 a5)) rfl (hf.symm.trans hF) dL_takes_19
noncomputable def pL_least (a1 : Int32) : Int32 := if a1 = 0 then (100) else (if a1 = 1 then (1) else (0))
abbrev rL_least : Room := { frames := 0, cells := 0, slots := 0, locals := 0 }
set_option maxHeartbeats 4000000 in
set_option maxRecDepth 100000 in
theorem mL_least (l : Launch) (dC : Nat → ClassId) (dI : Nat → Nat → Nat) (cI cB cO cL : ClassId)  (a1 : Int32) : Met l yL_least wsL_least rL_least (gP (dC, dI) (tYS cI cB cO cL) ([]) [.int a1]) (gRi (pL_least a1)) 0 0 (fun _ => False) := by
  refine gMet (cc := cL_least) (maxL := 1) (ret := some .int) [(0, .int a1)] (by decide) rfl rfl rfl ?_
  intro p e s mi below meth c C0 hK hP ls hl
  obtain ⟨hx, hb, hr, hml, hown, hts, hlocks⟩ := id C0
  have hown : s.vm.findClass RL = some mi.cls := hown
  obtain ⟨F, hF⟩ : ∃ F, F = pL_least a1 := ⟨_, rfl⟩
  have hf := hF
  refine lv_iload_n hx hb dL_least_0 rfl (lv_at hl 0 rfl) ?_
  refine lv_if_ne (tgt := 9) hx hb dL_least_1 (by decide) (fun c1 => ?_) (fun c1 => ?_)
  · have hf := ie_eq c1 hf
    refine lv_iload_n hx hb dL_least_9 rfl (lv_at hl 0 rfl) ?_
    refine lv_iconst (v := 1) hx hb dL_least_10 (by decide) ?_
    refine lv_icmp_ne (tgt := 18) hx hb dL_least_11 (by decide) (fun c2 => ?_) (fun c2 => ?_)
    · have hf := ie_eq c2 hf
      refine lv_iconst (v := 0) hx hb dL_least_18 (by decide) ?_
      exact e_ri C0 (hf.symm.trans hF) dL_least_19
    · have hf := it_eq c2 hf
      refine lv_iconst (v := 1) hx hb dL_least_14 (by decide) ?_
      refine lv_goto (tgt := 19) hx hb dL_least_15 (by decide) ?_
      exact e_ri C0 (hf.symm.trans hF) dL_least_19
  · have hf := it_eq c1 hf
    refine lv_bipush (v := 100) hx hb dL_least_4 (by decide) ?_
    refine lv_goto (tgt := 19) hx hb dL_least_6 (by decide) ?_
    exact e_ri C0 (hf.symm.trans hF) dL_least_19
noncomputable def pL_most_L9    : Int32 := 1000
noncomputable def pL_most (a1 : Int32) : Int32 := if a1 = 0 then (pL_most_L9) else (if a1 = 4 then (pL_most_L9) else (if a1 = 1 then (2) else (if a1 = 2 then (100) else (if a1 = 3 then (50) else (if a1 = 5 then (1) else (500))))))
abbrev rL_most : Room := { frames := 0, cells := 0, slots := 0, locals := 0 }
set_option maxHeartbeats 4000000 in
set_option maxRecDepth 100000 in
theorem mL_most (l : Launch) (dC : Nat → ClassId) (dI : Nat → Nat → Nat) (cI cB cO cL : ClassId)  (a1 : Int32) : Met l yL_most wsL_most rL_most (gP (dC, dI) (tYS cI cB cO cL) ([]) [.int a1]) (gRi (pL_most a1)) 0 0 (fun _ => False) := by
  refine gMet (cc := cL_most) (maxL := 1) (ret := some .int) [(0, .int a1)] (by decide) rfl rfl rfl ?_
  intro p e s mi below meth c C0 hK hP ls hl
  obtain ⟨hx, hb, hr, hml, hown, hts, hlocks⟩ := id C0
  have hown : s.vm.findClass RL = some mi.cls := hown
  obtain ⟨F, hF⟩ : ∃ F, F = pL_most a1 := ⟨_, rfl⟩
  have hf := hF
  have J_9 :  ∀ ls : Array Slot, lv_has ls 1 [] → F = pL_most_L9 → W p l e rL_most s mi ([.int a1] : List Value).toArray below meth c s.heap [] 0 0 (MQ below (gRi (pL_most a1)) ([.int a1] : List Value).toArray s 0 0 (fun _ => False)) (F0 mi 9 ls []) := by
    intro ls hl hf
    refine lv_sipush (v := 1000) hx hb dL_most_9 (by decide) ?_
    refine lv_goto (tgt := 56) hx hb dL_most_12 (by decide) ?_
    exact e_ri C0 (hf.symm.trans hF) dL_most_56
  refine lv_iload_n hx hb dL_most_0 rfl (lv_at hl 0 rfl) ?_
  refine lv_if_eq (tgt := 9) hx hb dL_most_1 (by decide) (fun c1 => ?_) (fun c1 => ?_)
  · have hf := it_eq c1 hf
    exact J_9 _ (lv_sub hl [] rfl) hf
  · have hf := ie_eq c1 hf
    refine lv_iload_n hx hb dL_most_4 rfl (lv_at hl 0 rfl) ?_
    refine lv_iconst (v := 4) hx hb dL_most_5 (by decide) ?_
    refine lv_icmp_ne (tgt := 15) hx hb dL_most_6 (by decide) (fun c2 => ?_) (fun c2 => ?_)
    · have hf := ie_eq c2 hf
      refine lv_iload_n hx hb dL_most_15 rfl (lv_at hl 0 rfl) ?_
      refine lv_iconst (v := 1) hx hb dL_most_16 (by decide) ?_
      refine lv_icmp_ne (tgt := 24) hx hb dL_most_17 (by decide) (fun c3 => ?_) (fun c3 => ?_)
      · have hf := ie_eq c3 hf
        refine lv_iload_n hx hb dL_most_24 rfl (lv_at hl 0 rfl) ?_
        refine lv_iconst (v := 2) hx hb dL_most_25 (by decide) ?_
        refine lv_icmp_ne (tgt := 34) hx hb dL_most_26 (by decide) (fun c4 => ?_) (fun c4 => ?_)
        · have hf := ie_eq c4 hf
          refine lv_iload_n hx hb dL_most_34 rfl (lv_at hl 0 rfl) ?_
          refine lv_iconst (v := 3) hx hb dL_most_35 (by decide) ?_
          refine lv_icmp_ne (tgt := 44) hx hb dL_most_36 (by decide) (fun c5 => ?_) (fun c5 => ?_)
          · have hf := ie_eq c5 hf
            refine lv_iload_n hx hb dL_most_44 rfl (lv_at hl 0 rfl) ?_
            refine lv_iconst (v := 5) hx hb dL_most_45 (by decide) ?_
            refine lv_icmp_ne (tgt := 53) hx hb dL_most_46 (by decide) (fun c6 => ?_) (fun c6 => ?_)
            · have hf := ie_eq c6 hf
              refine lv_sipush (v := 500) hx hb dL_most_53 (by decide) ?_
              exact e_ri C0 (hf.symm.trans hF) dL_most_56
            · have hf := it_eq c6 hf
              refine lv_iconst (v := 1) hx hb dL_most_49 (by decide) ?_
              refine lv_goto (tgt := 56) hx hb dL_most_50 (by decide) ?_
              exact e_ri C0 (hf.symm.trans hF) dL_most_56
          · have hf := it_eq c5 hf
            refine lv_bipush (v := 50) hx hb dL_most_39 (by decide) ?_
            refine lv_goto (tgt := 56) hx hb dL_most_41 (by decide) ?_
            exact e_ri C0 (hf.symm.trans hF) dL_most_56
        · have hf := it_eq c4 hf
          refine lv_bipush (v := 100) hx hb dL_most_29 (by decide) ?_
          refine lv_goto (tgt := 56) hx hb dL_most_31 (by decide) ?_
          exact e_ri C0 (hf.symm.trans hF) dL_most_56
      · have hf := it_eq c3 hf
        refine lv_iconst (v := 2) hx hb dL_most_20 (by decide) ?_
        refine lv_goto (tgt := 56) hx hb dL_most_21 (by decide) ?_
        exact e_ri C0 (hf.symm.trans hF) dL_most_56
    · have hf := it_eq c2 hf
      exact J_9 _ (lv_sub hl [] rfl) hf
noncomputable def bL_closes_L3 (len : Nat)  (q_3 : Int32 → Int32 → Int32 → ((Nat → Int32)) → (Nat → Int32)) (v2_3 : Int32) (v3_3 : Int32) (v4_3 : Int32) (x9_3 : (Nat → Int32)) : (Nat → Int32) := if v3_3 ≤ (v4_3 + v2_3) then (x9_3) else (lt ((upd x9_3 v4_3.toNatClampNeg (x9_3 ((v4_3 + v2_3).toNatClampNeg)))) fun (x9_3 : (Nat → Int32)) => lt (v4_3 + 1) fun (x4 : Int32) => q_3 v2_3 v3_3 x4 x9_3)
noncomputable def pL_closes_L3 (len : Nat)  : Nat → Int32 → Int32 → Int32 → ((Nat → Int32)) → (Nat → Int32)
  | 0 => fun _ _ _ x9_3 => (x9_3)
  | n + 1 => bL_closes_L3 len  (pL_closes_L3 len  n)
def kbL_closes_L3 (len : Nat)  (Q_3 : Int32 → Int32 → Int32 → ((Nat → Int32)) → Prop) (v2_3 : Int32) (v3_3 : Int32) (v4_3 : Int32) (x9_3 : (Nat → Int32)) : Prop := if v3_3 ≤ (v4_3 + v2_3) then (True) else ((vp_in (v4_3 + v2_3) len) ∧ ((vp_in v4_3 len) ∧ (lt ((upd x9_3 v4_3.toNatClampNeg (x9_3 ((v4_3 + v2_3).toNatClampNeg)))) fun (x9_3 : (Nat → Int32)) => lt (v4_3 + 1) fun (x4 : Int32) => Q_3 v2_3 v3_3 x4 x9_3)))
noncomputable def kL_closes_L3 (len : Nat)  : Nat → Int32 → Int32 → Int32 → ((Nat → Int32)) → Prop
  | 0 => fun _ _ _ _ => False
  | n + 1 => kbL_closes_L3 len  (kL_closes_L3 len  n)
noncomputable def pL_closes (len : Nat) (x9 : (Nat → Int32)) (a2 : Int32) (a3 : Int32) (a4 : Int32) : (Nat → Int32) := pL_closes_L3 len fu a3 a4 a2 x9
def kL_closes (len : Nat) (x9 : (Nat → Int32)) (a2 : Int32) (a3 : Int32) (a4 : Int32) : Prop := kL_closes_L3 len fu a3 a4 a2 x9
abbrev rL_closes : Room := { frames := 0, cells := 0, slots := 0, locals := 0 }
set_option maxHeartbeats 4000000 in
set_option maxRecDepth 100000 in
theorem mL_closes (l : Launch) (dC : Nat → ClassId) (dI : Nat → Nat → Nat) (cI cB cO cL : ClassId) (qx9 : Nat → Nat) (len : Nat) (x9 : (Nat → Int32)) (a2 : Int32) (a3 : Int32) (a4 : Int32) (hI : gD (fun _ => True) (ia1 qx9)) (hok : kL_closes len x9 a2 a3 a4) : Met l yL_closes wsL_closes rL_closes (gP (dC, dI) (tYS cI cB cO cL) (iaN qx9 cI len x9) [.ref (qx9 0), .int a2, .int a3, .int a4]) (gQv (dC, dI) (fun z9 : (Nat → Int32) => iaN qx9 cI len z9) (wA (iaN qx9 cI len x9)) (pL_closes len x9 a2 a3 a4)) 0 0 (wA (iaN qx9 cI len x9)) := by
  refine gMet (cc := cL_closes) (maxL := 5) (ret := none) [(0, .ref (qx9 0)), (1, .int a2), (2, .int a3), (3, .int a4)] (by decide) rfl rfl rfl ?_
  intro p e s mi below meth c C0 hK hP ls hl
  obtain ⟨hx, hb, hr, hml, hown, hts, hlocks⟩ := id C0
  have hown : s.vm.findClass RL = some mi.cls := hown
  have hS : va_S (wA (iaN qx9 cI len x9)) s.heap s.heap [] := va_S.rf
  have hD : gD (wA (iaN qx9 cI len x9)) (ia1 qx9) := gD_wA (ws := iaN qx9 cI len x9) hI
  have hP : va_P (dC, dI) vwCl (iaN qx9 cI len x9) s.heap := hP
  obtain ⟨F, hF⟩ : ∃ F, F = pL_closes len x9 a2 a3 a4 := ⟨_, rfl⟩
  have hf := hF
  have J_3 : ∀ (n_3 : Nat) (v2_3 : Int32) (v3_3 : Int32) (v4_3 : Int32) (x9_3 : (Nat → Int32)) (H : Heap) (locs : List Loc), va_P (dC, dI) vwCl (iaN qx9 cI len x9_3) H → va_S (wA (iaN qx9 cI len x9)) s.heap H locs → ∀ ls : Array Slot, lv_has ls 5 [(0, .ref (qx9 0)), (2, .int v2_3), (3, .int v3_3), (4, .int v4_3)] → F = pL_closes_L3 len n_3 v2_3 v3_3 v4_3 x9_3 → kL_closes_L3 len n_3 v2_3 v3_3 v4_3 x9_3 → W p l e rL_closes s mi ([.ref (qx9 0), .int a2, .int a3, .int a4] : List Value).toArray below meth c H locs 0 0 (MQ below (gQv (dC, dI) (fun z9 : (Nat → Int32) => iaN qx9 cI len z9) (wA (iaN qx9 cI len x9)) (pL_closes len x9 a2 a3 a4)) ([.ref (qx9 0), .int a2, .int a3, .int a4] : List Value).toArray s 0 0 (wA (iaN qx9 cI len x9))) (F0 mi 3 ls []) := by
    intro n_3
    induction n_3 with
    | zero =>
      intro v2_3 v3_3 v4_3 x9_3 H locs hP hS ls hl hf hok
      exact absurd hok (fun h => h)
    | succ n_3 ih_3 =>
      intro v2_3 v3_3 v4_3 x9_3 H locs hP hS ls hl hf hok
      have hf : F = bL_closes_L3 len (pL_closes_L3 len n_3) v2_3 v3_3 v4_3 x9_3 := hf
      have hok : kbL_closes_L3 len (kL_closes_L3 len n_3) v2_3 v3_3 v4_3 x9_3 := hok
      refine lv_iload hx hb dL_closes_3 (lv_at hl 3 rfl) ?_
      refine lv_iload_n hx hb dL_closes_5 rfl (lv_at hl 1 rfl) ?_
      refine lv_iadd hx hb dL_closes_6 ?_
      refine lv_iload_n hx hb dL_closes_7 rfl (lv_at hl 2 rfl) ?_
      refine lv_icmp_ge (tgt := 27) hx hb dL_closes_8 (by decide) (fun c1 => ?_) (fun c1 => ?_)
      · have hf := it_eq c1 hf
        exact e_mv C0 (hf.symm.trans hF) hP hS dL_closes_27
      · have hf := ie_eq c1 hf
        have hok := ie_ok c1 hok
        refine lv_aload_n hx hb dL_closes_11 rfl (lv_at hl 0 rfl) ?_
        refine lv_iload hx hb dL_closes_12 (lv_at hl 3 rfl) ?_
        refine lv_aload_n hx hb dL_closes_14 rfl (lv_at hl 0 rfl) ?_
        refine lv_iload hx hb dL_closes_15 (lv_at hl 3 rfl) ?_
        refine lv_iload_n hx hb dL_closes_17 rfl (lv_at hl 1 rfl) ?_
        refine lv_iadd hx hb dL_closes_18 ?_
        obtain ⟨h5, hok⟩ := hok
        refine va_iald (D := (dC, dI)) (tys := (tYS cI cB cO cL)) hx hb hK hP 0 0 rfl rfl h5 dL_closes_19 ?_
        obtain ⟨h2, hok⟩ := hok
        refine va_iast (D := (dC, dI)) (tys := (tYS cI cB cO cL)) hx hb hK hP (gD_va hD rfl) hS 0 0 rfl rfl h2 dL_closes_20 (fun H locs hP _ hS => ?_)
        obtain ⟨x9_3, ex9_3⟩ : ∃ z9 : (Nat → Int32), z9 = (upd x9_3 v4_3.toNatClampNeg (x9_3 ((v4_3 + v2_3).toNatClampNeg))) := ⟨_, rfl⟩
        have hP : va_P (dC, dI) vwCl (iaN qx9 cI len x9_3) H := by rw [ex9_3]; exact hP
        have hf := lt_eq ex9_3 hf
        have hok := lt_ok ex9_3 hok
        obtain ⟨x4, ex4⟩ : ∃ y : Int32, y = v4_3 + 1 := ⟨_, rfl⟩
        refine lv_iinc (v := x4) (lv' := [(4, .int x4), (0, .ref (qx9 0)), (2, .int v2_3), (3, .int v3_3)]) hx hb dL_closes_21 hl (k := 3) rfl (by rw [ex4]; rfl) (by decide) rfl (fun ls hl => ?_)
        have hf := lt_eq ex4 hf
        have hok := lt_ok ex4 hok
        refine lv_goto (tgt := 3) hx hb dL_closes_24 (by decide) ?_
        exact ih_3 v2_3 v3_3 x4 x9_3 _ _ hP hS _ (lv_sub hl [1, 2, 3, 0] rfl) hf hok
  refine lv_iload_n hx hb dL_closes_0 rfl (lv_at hl 1 rfl) ?_
  refine lv_istore (lv' := [(4, .int a2), (0, .ref (qx9 0)), (1, .int a2), (2, .int a3), (3, .int a4)]) hx hb dL_closes_1 hl (by decide) rfl (fun ls hl => ?_)
  exact J_3 fu a3 a4 a2 x9 _ _ hP hS _ (lv_sub hl [1, 3, 4, 0] rfl) hf hok
noncomputable def pL_draw (g : (Nat → Int32)) (a2 : Int32) : Int32 × (Nat → Int32) := lt ((upd g 6 ((((1103515245 * ((g 6).toInt64)) + 12345) - ((1103515245 * ((g 6).toInt64)) + 12345) / 2147483648 * 2147483648).toInt32))) fun (g_1 : (Nat → Int32)) => (((g_1 6) / 65536) - ((g_1 6) / 65536) / a2 * a2, g_1)
def kL_draw (g : (Nat → Int32)) (a2 : Int32) : Prop := lt ((upd g 6 ((((1103515245 * ((g 6).toInt64)) + 12345) - ((1103515245 * ((g 6).toInt64)) + 12345) / 2147483648 * 2147483648).toInt32))) fun (g_1 : (Nat → Int32)) => ¬ a2 = 0
abbrev rL_draw : Room := { frames := 0, cells := 0, slots := 0, locals := 0 }
set_option maxHeartbeats 4000000 in
set_option maxRecDepth 100000 in
theorem mL_draw (l : Launch) (dC : Nat → ClassId) (dI : Nat → Nat → Nat) (cI cB cO cL : ClassId) (qg : Nat → Nat) (g : (Nat → Int32)) (a2 : Int32) (hI : gD (fun _ => True) (ia1 qg)) (hok : kL_draw g a2) : Met l yL_draw wsL_draw rL_draw (gP (dC, dI) (tYS cI cB cO cL) (ia14 qg cI g) [.ref (qg 0), .int a2]) (gQi (dC, dI) (fun z9 : (Nat → Int32) => ia14 qg cI z9) (wA (ia14 qg cI g)) (pL_draw g a2)) 0 0 (wA (ia14 qg cI g)) := by
  refine gMet (cc := cL_draw) (maxL := 2) (ret := some .int) [(0, .ref (qg 0)), (1, .int a2)] (by decide) rfl rfl rfl ?_
  intro p e s mi below meth c C0 hK hP ls hl
  obtain ⟨hx, hb, hr, hml, hown, hts, hlocks⟩ := id C0
  have hown : s.vm.findClass RL = some mi.cls := hown
  have hS : va_S (wA (ia14 qg cI g)) s.heap s.heap [] := va_S.rf
  have hD : gD (wA (ia14 qg cI g)) (ia1 qg) := gD_wA (ws := ia14 qg cI g) hI
  have hP : va_P (dC, dI) vwCl (ia14 qg cI g) s.heap := hP
  obtain ⟨F, hF⟩ : ∃ F, F = pL_draw g a2 := ⟨_, rfl⟩
  have hf := hF
  have cn24 := hts (.constantLong RL 24 (1103515245)) (by decide +kernel)
  have cn26 := hts (.constantLong RL 26 (12345)) (by decide +kernel)
  have cn28 := hts (.constantLong RL 28 (2147483648)) (by decide +kernel)
  have cn30 := hts (.constant RL 30 (65536)) (by decide +kernel)
  refine lv_aload_n hx hb dL_draw_0 rfl (lv_at hl 0 rfl) ?_
  refine lv_bipush (v := 6) hx hb dL_draw_1 (by decide) ?_
  refine lv_ldc2 (v := 1103515245) hx hb hown cn24 dL_draw_3 ?_
  refine lv_aload_n hx hb dL_draw_6 rfl (lv_at hl 0 rfl) ?_
  refine lv_bipush (v := 6) hx hb dL_draw_7 (by decide) ?_
  refine g_ialdK (D := (dC, dI)) (tys := (tYS cI cB cO cL)) (k := 6) hx hb hK hP 0 0 rfl rfl (by decide) (by decide) (by decide) dL_draw_9 ?_
  refine lv_i2l hx hb dL_draw_10 rfl ?_
  refine lv_lmul hx hb dL_draw_11 ?_
  refine lv_ldc2 (v := 12345) hx hb hown cn26 dL_draw_12 ?_
  refine lv_ladd hx hb dL_draw_15 ?_
  refine lv_ldc2 (v := 2147483648) hx hb hown cn28 dL_draw_16 ?_
  refine lv_lrem hx hb dL_draw_19 (by decide) ?_
  refine lv_l2i hx hb dL_draw_20 rfl ?_
  refine g_iastK (D := (dC, dI)) (tys := (tYS cI cB cO cL)) (k := 6) hx hb hK hP (gD_va hD rfl) hS 0 0 rfl rfl (by decide) (by decide) (by decide) dL_draw_21 (fun H locs hP hS => ?_)
  obtain ⟨g_1, eg_1⟩ : ∃ z9 : (Nat → Int32), z9 = (upd g 6 ((((1103515245 * ((g 6).toInt64)) + 12345) - ((1103515245 * ((g 6).toInt64)) + 12345) / 2147483648 * 2147483648).toInt32)) := ⟨_, rfl⟩
  have hP : va_P (dC, dI) vwCl (ia14 qg cI g_1) H := by rw [eg_1]; exact hP
  have hf := lt_eq eg_1 hf
  have hok := lt_ok eg_1 hok
  refine lv_aload_n hx hb dL_draw_22 rfl (lv_at hl 0 rfl) ?_
  refine lv_bipush (v := 6) hx hb dL_draw_23 (by decide) ?_
  refine g_ialdK (D := (dC, dI)) (tys := (tYS cI cB cO cL)) (k := 6) hx hb hK hP 0 0 rfl rfl (by decide) (by decide) (by decide) dL_draw_25 ?_
  refine lv_ldc (v := 65536) hx hb hown cn30 dL_draw_26 ?_
  refine lv_idiv hx hb dL_draw_28 (by decide) ?_
  refine lv_iload_n hx hb dL_draw_29 rfl (lv_at hl 1 rfl) ?_
  have h2 : ¬ a2 = 0 := hok
  refine lv_irem hx hb dL_draw_30 h2 ?_
  exact e_mi C0 (hf.symm.trans hF) hP hS dL_draw_31
