/-! THE LAW: what it reads of its script -/
section CELL
def xP (ba L : Nat) (xs : Nat → Int32) (av : List Value) : Array Value → State → Prop := va_Pc av (fun U => va_X ba L xs U U.heap ∧ ba < U.heap.size)
theorem xP_blind {ba L : Nat} {xs : Nat → Int32} {av : List Value} : FrameBlind (xP ba L xs av) := fun a U g mk h => ⟨h.1, va_X.moved (u := U) (U := U.calling g mk a) (Vm.Alike.refl U.vm) h.2.1, h.2.2⟩
theorem xP_ok {ba L : Nat} {xs : Nat → Int32} {av : List Value} {s : State} {H : Heap} {A : Nat → Prop} {locs : List Loc} (hX : va_X ba L xs s s.heap) (hbl : ba < s.heap.size) (hS : va_S A s.heap H locs) (hbA : ¬ A ba) : ∀ U : State, U.heap = H → s.WarmedH U.vm → xP ba L xs av av.toArray U := fun U hU hW =>
  ⟨rfl, by rw [hU]; exact (va_X.kept hX (hS.2.1 ba hbl hbA)).moved hW.alike, by rw [hU]; exact Nat.lt_of_lt_of_le hbl hS.1⟩
def cellV (L : Nat) (xs : Nat → Int32) (k : Nat) : Int32 := if k < L then xs k else 40503 * (nI k + 3)
abbrev rL_cell : Room := { frames := 0, cells := 0, slots := 0, locals := 0 }
set_option maxHeartbeats 4000000 in
theorem mL_cell (l : Launch) (ba L : Nat) (xs : Nat → Int32) (k : Nat) (hL : L ≤ 260) (hk : k < 1000) : Met l yL_cell wsL_cell rL_cell (xP ba L xs [.ref ba, .int (nI k)]) (gRi (cellV L xs k)) 0 0 (fun _ => False) := by
  refine Met.ofW (cc := cL_cell) (maxL := 2) (ret := some .int) (by decide) rfl ?_
  intro p e s m args below meth c s₁ B hml hv
  obtain ⟨rfl, hX, hbl⟩ := hv
  rw [lg_entry_eq]
  have hl := lv_entry [.ref ba, .int (nI k)] (n := 2) (Nat.le_of_ble_eq_true rfl)
  have C0 : Cx p s m meth c cL_cell (some .int) 2 RL _ wsL_cell := ⟨B.exec, B.bytes, B.returns, hml, findClass_of_methodNamed B.named, atoms_spec (ws := wsL_cell) B.pre, B.notSynchronized⟩
  generalize (lg_sl ([.ref ba, .int (nI k)]) ++ List.replicate (2 - (lg_sl ([.ref ba, .int (nI k)])).length) Slot.unset).toArray = ls at hl ⊢
  have hl : lv_has ls 2 [(0, .ref ba), (1, .int (nI k))] := hl
  obtain ⟨hx, hb, hr, hml, hown, hts, hlocks⟩ := id C0
  have hS : va_S (fun _ => False) s.heap s.heap [] := va_S.rf
  refine lv_iload_n hx hb dL_cell_0 rfl (lv_at hl 1 rfl) ?_
  refine lv_aload_n hx hb dL_cell_1 rfl (lv_at hl 0 rfl) ?_
  refine va_slen hx hb hX hbl (fun h => h) hS dL_cell_2 ?_
  refine lv_icmp_ge (tgt := 12) hx hb dL_cell_3 (by decide) (fun h9 => ?_) (fun h9 => ?_)
  · refine lv_ldc (v := 40503) hx hb hown (hts (.constant RL 7 (40503)) (by decide +kernel)) dL_cell_12 ?_
    refine lv_iload_n hx hb dL_cell_14 rfl (lv_at hl 1 rfl) ?_
    refine lv_iconst (v := 3) hx hb dL_cell_15 (by decide) ?_
    refine lv_iadd hx hb dL_cell_16 ?_
    refine lv_imul hx hb dL_cell_17 ?_
    refine e_ri C0 ?_ dL_cell_18
    have h8 : ¬ k < L := fun h => nI_ge h (by omega) h9
    exact (if_neg h8).symm
  · have h8 : k < L := Nat.not_le.mp (fun h => h9 (nI_le h (by omega)))
    refine lv_aload_n hx hb dL_cell_6 rfl (lv_at hl 0 rfl) ?_
    refine lv_iload_n hx hb dL_cell_7 rfl (lv_at hl 1 rfl) ?_
    refine va_sld hx hb hX hbl (fun h => h) hS (vp_in_n h8 (by omega)) dL_cell_8 ?_
    refine lv_goto (tgt := 18) hx hb dL_cell_9 (by decide) ?_
    refine e_ri C0 ?_ dL_cell_18
    rw [nI_clamp (by omega)]
    exact (if_pos h8).symm
end CELL
