noncomputable def pX11_mix (a1 : Int64) (a2 : Int64) : Int64 := (31 * a1) + a2
abbrev rX11_mix : Room := { frames := 0, cells := 0, slots := 0, locals := 0 }
set_option maxHeartbeats 4000000 in
set_option maxRecDepth 100000 in
theorem mX11_mix (l : Launch) (dC : Nat → ClassId) (dI : Nat → Nat → Nat) (cI cB cO cL : ClassId)  (a1 : Int64) (a2 : Int64) : Met l yX11_mix wsX11_mix rX11_mix (cP (dC, dI) (tYS cI cB cO cL) ([]) [.long a1, .long a2]) (gRl (pX11_mix a1 a2)) 0 0 (fun _ => False) := by
  refine cMet (cc := cX11_mix) (maxL := 4) (ret := some .long) [(0, .long a1), (2, .long a2)] (by decide) rfl rfl rfl ?_
  intro p e s mi below meth c C0 hK hE hP ls hl
  obtain ⟨hx, hb, hr, hml, hown, hts, hlocks⟩ := id C0
  have hown : s.vm.findClass RX11 = some mi.cls := hown
  obtain ⟨F, hF⟩ : ∃ F, F = pX11_mix a1 a2 := ⟨_, rfl⟩
  have hf := hF
  have cn324 := hts (.constantLong RX11 324 (31)) (by decide +kernel)
  refine lv_ldc2 (v := 31) hx hb hown cn324 dX11_mix_0 ?_
  refine lv_lload_n hx hb dX11_mix_3 rfl (lv_at hl 0 rfl) ?_
  refine lv_lmul hx hb dX11_mix_4 ?_
  refine lv_lload_n hx hb dX11_mix_5 rfl (lv_at hl 1 rfl) ?_
  refine lv_ladd hx hb dX11_mix_6 ?_
  exact e_rl C0 (hf.symm.trans hF) dX11_mix_7

