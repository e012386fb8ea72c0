/-! METHODS THAT MAY THROW: the code of what they throw (0: nothing), and the world behind -/
section XRW
abbrev xA (sz : Nat) : Nat → Prop := fun q => sz ≤ q
def zP (N0 sz : Nat) (sT eA : Nat → Nat) (D : va_G) (tys : List (ClassId × FieldType)) (w : va_W) (av : List Value) : Array Value → State → Prop := va_Pc av (fun U => U.heap.size = sz ∧ va_P D vwCl w U.heap ∧ va_K D vwCl tys U ∧ eF N0 sT eA U U.heap)
theorem zP_blind {N0 sz : Nat} {sT eA : Nat → Nat} {D : va_G} {tys : List (ClassId × FieldType)} {w : va_W} {av : List Value} : FrameBlind (zP N0 sz sT eA D tys w av) := fun a U g mk h => ⟨h.1, h.2.1, h.2.2.1, va_K.moved (u := U) (U := U.calling g mk a) (Vm.Alike.refl U.vm) h.2.2.2.1, h.2.2.2.2.1.call, h.2.2.2.2.2.1.call, eH.moved (u := U) (U := U.calling g mk a) (Vm.Alike.refl U.vm) h.2.2.2.2.2.2⟩
theorem zP_ok {N0 : Nat} {sT eA : Nat → Nat} {D : va_G} {tys : List (ClassId × FieldType)} {w : va_W} {av : List Value} {s : State} {H : Heap} {A : Nat → Prop} {locs : List Loc} (hP : va_P D vwCl w H) (hK : va_K D vwCl tys s) (hF : eF N0 sT eA s s.heap) (hS : va_S A s.heap H locs) (hN : ∀ q, A q → N0 ≤ q) : ∀ U : State, U.heap = H → s.WarmedH U.vm → zP N0 H.size sT eA D tys w av av.toArray U := fun U hU hW =>
  ⟨rfl, by rw [hU], by rw [hU]; exact hP, va_K.moved hW.alike hK, hF.1.warm hW, hF.2.1.warm hW, by rw [hU]; exact (hF.2.2.kept (fun a h1 h2 => hS.2.1 a h1 (fun h => h2 (hN a h)))).moved hW.alike⟩
theorem zMet {l : Launch} {y : MethodName} {ws ws' : List Cond} {rm : Room} {cc : ByteArray} {maxL : Nat} {ret : Option FieldType} {N0 sz : Nat} {sT eA : Nat → Nat} {D : va_G} {tys : List (ClassId × FieldType)} {w0 : va_W} {av : List Value} {Qc : Array Value → State → Outcome → State → Prop} {XC : String → State → State → Prop} {mc ms : Nat} {free : Addr → Prop} (lv0 : List (Nat × Value))
    (hy : plainName y.cls = true) (hw : ws = Cond.code y cc maxL ret :: ws') (hsl : Nat.ble (lg_sl av).length maxL = true) (hlv : lv_args 0 av = lv0)
    (body : ∀ (p : Program) (e : Env) (s : State) (m : MethodId) (below : List Frame) (meth : Method) (c : Code), Cx p s m meth c cc ret maxL y.cls av.toArray ws → (∀ x ∈ c.exceptionTable.toList, False) → s.heap.size = sz → va_K D vwCl tys s → eF N0 sT eA s s.heap → va_P D vwCl w0 s.heap → ∀ ls : Array Slot, lv_has ls maxL lv0 → W p l e rm s m av.toArray below meth c s.heap [] 0 0 (vx_MQ below Qc XC av.toArray s mc ms free) (F0 m 0 ls [])) : vx_Met l y ws rm (zP N0 sz sT eA D tys w0 av) Qc XC mc ms free := by
  refine vx_ofW (cc := cc) (maxL := maxL) (ret := ret) hy hw ?_
  intro p e s m args below meth c s₁ B hml htab hv
  obtain ⟨rfl, hsz, hP, hK, hF⟩ := hv
  rw [lg_entry_eq]
  have hl := lv_entry av (n := maxL) (Nat.le_of_ble_eq_true hsl)
  rw [hlv] at hl
  exact body p e s m below meth c ⟨B.exec, B.bytes, B.returns, hml, findClass_of_methodNamed B.named, atoms_spec (ws := ws) B.pre, B.notSynchronized⟩ htab hsz hK hF hP _ hl
/-- of a method without a world -/
abbrev tQ (f sz : Nat) : Array Value → State → Outcome → State → Prop := va_Qv (fun _ : Unit => f = 0) (fun _ _ => True) (xA sz)
abbrev tX (f sz : Nat) : String → State → State → Prop := vx_X (fun c : Nat => c = f ∧ c ≠ 0) (fun E c _ => E = xN c) (xA sz)
/-- of a method with a world, that answers an int -/
abbrev yQi {σ : Type} (D : va_G) (Wd : σ → va_W) (A : Nat → Prop) (f : Nat × (Int32 × σ)) : Array Value → State → Outcome → State → Prop := va_Qi (fun (r : Int32) (u : σ) => (0, (r, u)) = f) (fun u t => va_P D vwCl (Wd u) t.heap) A
abbrev yX {σ : Type} (D : va_G) (Wd : σ → va_W) (A : Nat → Prop) (f : Nat × (Int32 × σ)) : String → State → State → Prop := vx_X (fun v : Nat × (Int32 × σ) => v = f ∧ v.1 ≠ 0) (fun E v t => E = xN v.1 ∧ va_P D vwCl (Wd v.2.2) t.heap) A
variable {p : Program} {l : Launch} {e : Env} {R : Room} {s : State} {m : MethodId} {args : Array Value} {below : List Frame} {meth : Method} {c : Code} {H : Heap} {locs : List Loc} {cells slots : Nat} {Q : State → Prop}
variable {pc : Nat} {ls : Array Slot} {rest st0 : List Value} {a : Array Value} {A A0 : Nat → Prop} {D : va_G} {ws wc : va_W} {cc : ByteArray} {nL : Nat} {own : String} {Ts : List Cond}
theorem va_P_kept {cl : List vw_C} {H1 : Heap} (hP : va_P D cl ws H) (hk : ∀ q : Nat, q < H.size → H1[q]? = H[q]?) : va_P D cl ws H1 := fun k q hq => (hP k q hq).kept (hk q.1 (hP k q hq).lt)
theorem x_callS {f : Nat} (hr : vx_Run p l e R s m args below meth c H locs cells slots 1 6 (F0 m pc ls st0) rest (tQ f H.size a) (tX f H.size) (xA H.size)) (hP : va_P D vwCl ws H) (hS : va_S A0 s.heap H locs) (hA0 : ∀ q, s.heap.size ≤ q → A0 q)
    (kx : f ≠ 0 → ∀ (q9 : Addr) (ce : Cell) (H1 : Heap) (locs1 : List Loc), va_P D vwCl ws H1 → va_S A0 s.heap H1 locs1 → H1[q9]? = some ce → ce.vm = .none → s.vm.findClass (xN f) = some ce.cls → vx_W p l e R s m args below meth c H1 locs1 (cells + 1) (slots + 6) Q (F0 m pc ls rest) q9)
    (kk : f = 0 → ∀ (H1 : Heap) (locs1 : List Loc), va_P D vwCl ws H1 → va_S A0 s.heap H1 locs1 → W p l e R s m args below meth c H1 locs1 (cells + 1) (slots + 6) Q (F0 m (pc + 3) ls rest)) : W p l e R s m args below meth c H locs cells slots Q (F0 m pc ls st0) := by
  refine vx_callv hr hS (fun q h1 h2 => absurd h1 (Nat.not_lt.mpr h2)) (fun q h => hA0 q (Nat.le_trans hS.1 h)) (fun q h1 h2 => absurd h1 (Nat.not_lt.mpr h2)) ?_ ?_
  · intro E ce q9 u t H1 locs1 ht hvm hpx hBX hz hk hS1 hce hcv hcl
    obtain ⟨rfl, hne⟩ := hpx
    have hE : E = xN u := hBX
    subst hE
    exact kx hne q9 ce H1 locs1 (va_P_kept hP (fun q h => hk q h (Nat.not_le.mpr h))) hS1 hce hcv hcl
  · intro u t H1 locs1 ht hvm hp hB hz hk hS1
    exact kk hp H1 locs1 (va_P_kept hP (fun q h => hk q h (Nat.not_le.mpr h))) hS1
/-- it goes on to the caller -/
theorem x_out {σ : Type} {Wd : σ → va_W} {f : Nat × (Int32 × σ)} {mc ms : Nat} (htab : ∀ x ∈ c.exceptionTable.toList, False) (hlocks : meth.locks = false) {g : Nat} {r : Int32} {u : σ} {q9 : Addr} {ce : Cell} (hg : g ≠ 0) (h : (g, (r, u)) = f) (hP : va_P D vwCl (Wd u) H) (hS : va_S A s.heap H locs) (hce : H[q9]? = some ce) (hcv : ce.vm = .none) (hcl : s.vm.findClass (xN g) = some ce.cls) (hc : Nat.ble cells mc = true) (hs : Nat.ble slots ms = true) :
    vx_W p l e R s m args below meth c H locs cells slots (vx_MQ below (yQi D Wd A f) (yX D Wd A f) args s mc ms A) (F0 m pc ls rest) q9 :=
  vx_out (fun x hx => (htab x hx).elim) hlocks hce hcv hcl (fun t ht hvm => ⟨(g, (r, u)), ⟨h, hg⟩, ⟨rfl, by show va_P D vwCl (Wd u) t.heap; rw [ht]; exact hP⟩, hS.F ht⟩) hS.2.2 (Nat.le_of_ble_eq_true hc) (Nat.le_of_ble_eq_true hs)
theorem e_yi {σ : Type} {Wd : σ → va_W} {f : Nat × (Int32 × σ)} {XC : String → State → State → Prop} {mc ms : Nat} (C0 : Cx p s m meth c cc (some .int) nL own args Ts) {v : Int32} {u : σ} (h : (0, (v, u)) = f) (hP : va_P D vwCl (Wd u) H) (hS : va_S A s.heap H locs) (hc : Nat.ble cells mc = true) (hs : Nat.ble slots ms = true) (hdg : decode cc pc = .ok (.ireturn, 1)) : W p l e R s m args below meth c H locs cells slots (vx_MQ below (yQi D Wd A f) XC args s mc ms A) (F0 m pc ls [.int v]) := by
  obtain ⟨hx, hb, hr, hml, hown, hts, hlocks⟩ := C0
  refine W.widen (Nat.le_of_ble_eq_true hc) (Nat.le_of_ble_eq_true hs) (vx_ret ?_)
  exact W.iret hx hb hr (fun t ht hW => ⟨⟨v, u, rfl, h, by show va_P D vwCl (Wd u) t.heap; rw [ht]; exact hP⟩, hS.F ht⟩) hS.2.2 hdg hlocks
end XRW
section REFUSE
variable {l : Launch} {dC : Nat → ClassId} {dI : Nat → Nat → Nat} {cI cB cO cL : ClassId}
theorem x_hat {sT : Nat → Nat} {args : Array Value} {s : State} {L : List Cond} (hE : eV sT s) (h1 : ∀ w ∈ L.filter goodWord, w.before args s = true) (h2 : ∀ w ∈ L.filter (fun w => !goodWord w), w ∈ nXW) : ∀ w ∈ L, w.before args s = true := vx_hat (B := nXW) h1 h2 hE.cas
abbrev rX11_refuse : Room := { frames := 6, cells := 1, slots := 6, locals := 90 }
set_option maxHeartbeats 4000000 in
set_option maxRecDepth 100000 in
theorem mX11_refuse (l : Launch) (hfl : l.stackTraces = false) (dC : Nat → ClassId) (dI : Nat → Nat → Nat) (cI cB cO cL : ClassId) (N0 : Nat) (sT eA : Nat → Nat) (sz : Nat) (hsz : N0 ≤ sz) (a1 : Int32) : vx_Met l yX11_refuse wsX11_refuse rX11_refuse (zP N0 sz sT eA (dC, dI) (tYS cI cB cO cL) [] [.int a1]) (tQ (pX11_refuse a1) sz) (tX (pX11_refuse a1) sz) 1 6 (xA sz) := by
  refine zMet (cc := cX11_refuse) (maxL := 1) (ret := none) [(0, .int a1)] (by decide) rfl rfl rfl ?_
  intro p e s mi below meth c C0 htab hz hK hF hP ls hl
  obtain ⟨hx, hb, hr, hml, hown, hts, hlocks⟩ := id C0
  have hown : s.vm.findClass RX11 = some mi.cls := hown
  subst hz
  have hS : va_S (xA s.heap.size) s.heap s.heap [] := va_S.rf
  have hH := hF.2.2.narrow (B := xA s.heap.size) (fun q h => Nat.le_trans hsz h)
  have hU := hH.2.2.2.2.2.2.2.2.1
  have hN := hH.2.2.2.2.2.2.2.2.2
  obtain ⟨F, hFe⟩ : ∃ F, F = pX11_refuse a1 := ⟨_, rfl⟩
  have hf := hFe
  have hxt : ∀ (E : String) (g : Nat), xN g = E → g ≠ 0 → F = g → ∀ t : State, s.vm.Alike t.vm → s.heap.size ≤ t.heap.size → (∀ q : Nat, q < s.heap.size → t.heap[q]? = s.heap[q]?) → tX (pX11_refuse a1) s.heap.size E s t := fun E g hE hg hFg t _ h1 h2 => ⟨g, ⟨hFg.symm.trans hFe, hg⟩, hE.symm, h1, fun q h _ => h2 q h⟩
  refine lv_iload_n hx hb dX11_refuse_0 rfl (lv_at hl 0 rfl) ?_
  refine lv_iconst (v := 1) hx hb dX11_refuse_1 (by decide) ?_
  refine lv_icmp_ne (tgt := 16) hx hb dX11_refuse_2 (by decide) (fun c1 => ?_) (fun c1 => ?_)
  · have hf := ie_eq c1 hf
    refine lv_iload_n hx hb dX11_refuse_16 rfl (lv_at hl 0 rfl) ?_
    refine lv_iconst (v := 2) hx hb dX11_refuse_17 (by decide) ?_
    refine lv_icmp_ne (tgt := 32) hx hb dX11_refuse_18 (by decide) (fun c2 => ?_) (fun c2 => ?_)
    · have hf := ie_eq c2 hf
      refine lv_iload_n hx hb dX11_refuse_32 rfl (lv_at hl 0 rfl) ?_
      refine lv_iconst (v := 3) hx hb dX11_refuse_33 (by decide) ?_
      refine lv_icmp_ne (tgt := 48) hx hb dX11_refuse_34 (by decide) (fun c3 => ?_) (fun c3 => ?_)
      · have hf := ie_eq c3 hf
        refine W.widen (k := 1) (n := 6) (Nat.zero_le _) (Nat.zero_le _) (vx_ret ?_)
        exact W.vret hx hb hr (fun t ht hW => ⟨⟨(), rfl, hFe.symm.trans hf, trivial⟩, hS.F ht⟩) hS.2.2 dX11_refuse_48 hlocks
      · have hf := it_eq c3 hf
        refine vx_throwSW (text := "this can't be done now") hx hb hfl hown (by decide +kernel) (by decide +kernel) (hts (.classLink RX11 285 "java/lang/IllegalStateException") (by decide +kernel)) (hts (.initialized "java/lang/IllegalStateException") (by decide +kernel)) hF.2.1.2.2.2.1 (x_hat hF.2.1 (L := vx_atS RX11 289 "java/lang/IllegalStateException" xNM) (fun w h => hts w (List.mem_cons_of_mem _ (List.mem_append_right _ h))) (fun w h => List.mem_append_right _ h)) (by decide +kernel) hU hN hS (hl.1.trans hml.symm) dX11_refuse_37 dX11_refuse_40 dX11_refuse_41 dX11_refuse_44 dX11_refuse_47 (fun x h => (htab x h).elim) (Nat.le_of_ble_eq_true rfl) (Nat.le_of_ble_eq_true rfl) (Nat.le_of_ble_eq_true rfl) (Nat.le_of_ble_eq_true rfl) hlocks (hxt _ 3 rfl (by decide) hf) (fun z h => absurd h List.not_mem_nil) (Nat.le_refl _) (Nat.le_refl _)
    · have hf := it_eq c2 hf
      refine vx_throwSW (text := "an argument is out of range") hx hb hfl hown (by decide +kernel) (by decide +kernel) (hts (.classLink RX11 280 "java/lang/IllegalArgumentException") (by decide +kernel)) (hts (.initialized "java/lang/IllegalArgumentException") (by decide +kernel)) hF.2.1.2.2.1 (x_hat hF.2.1 (L := vx_atS RX11 284 "java/lang/IllegalArgumentException" xNM) (fun w h => hts w (List.mem_cons_of_mem _ (List.mem_append_left _ (List.mem_append_right _ h)))) (fun w h => List.mem_append_left _ (List.mem_append_right _ h))) (by decide +kernel) hU hN hS (hl.1.trans hml.symm) dX11_refuse_21 dX11_refuse_24 dX11_refuse_25 dX11_refuse_28 dX11_refuse_31 (fun x h => (htab x h).elim) (Nat.le_of_ble_eq_true rfl) (Nat.le_of_ble_eq_true rfl) (Nat.le_of_ble_eq_true rfl) (Nat.le_of_ble_eq_true rfl) hlocks (hxt _ 2 rfl (by decide) hf) (fun z h => absurd h List.not_mem_nil) (Nat.le_refl _) (Nat.le_refl _)
  · have hf := it_eq c1 hf
    refine vx_throwSW (text := "there is nothing with this number") hx hb hfl hown (by decide +kernel) (by decide +kernel) (hts (.classLink RX11 273 "java/lang/IndexOutOfBoundsException") (by decide +kernel)) (hts (.initialized "java/lang/IndexOutOfBoundsException") (by decide +kernel)) hF.2.1.2.1 (x_hat hF.2.1 (L := vx_atS RX11 277 "java/lang/IndexOutOfBoundsException" xNM) (fun w h => hts w (List.mem_cons_of_mem _ (List.mem_append_left _ (List.mem_append_left _ (List.mem_append_right _ h))))) (fun w h => List.mem_append_left _ (List.mem_append_left _ h))) (by decide +kernel) hU hN hS (hl.1.trans hml.symm) dX11_refuse_5 dX11_refuse_8 dX11_refuse_9 dX11_refuse_12 dX11_refuse_15 (fun x h => (htab x h).elim) (Nat.le_of_ble_eq_true rfl) (Nat.le_of_ble_eq_true rfl) (Nat.le_of_ble_eq_true rfl) (Nat.le_of_ble_eq_true rfl) hlocks (hxt _ 1 rfl (by decide) hf) (fun z h => absurd h List.not_mem_nil) (Nat.le_refl _) (Nat.le_refl _)
abbrev rX11_requireThere : Room := { frames := 7, cells := 1, slots := 6, locals := 112 }
set_option maxHeartbeats 4000000 in
set_option maxRecDepth 100000 in
theorem mX11_requireThere (l : Launch) (hfl : l.stackTraces = false) (dC : Nat → ClassId) (dI : Nat → Nat → Nat) (cI cB cO cL : ClassId) (N0 : Nat) (sT eA : Nat → Nat) (sz : Nat) (hsz : N0 ≤ sz) (a1 : Bool) : vx_Met l yX11_requireThere wsX11_requireThere rX11_requireThere (zP N0 sz sT eA (dC, dI) (tYS cI cB cO cL) [] [.int (bz a1)]) (tQ (pX11_requireThere a1) sz) (tX (pX11_requireThere a1) sz) 1 6 (xA sz) := by
  refine zMet (cc := cX11_requireThere) (maxL := 1) (ret := none) [(0, .int (bz a1))] (by decide) rfl rfl rfl ?_
  intro p e s mi below meth c C0 htab hz hK hF hP ls hl
  obtain ⟨hx, hb, hr, hml, hown, hts, hlocks⟩ := id C0
  have hown : s.vm.findClass RX11 = some mi.cls := hown
  subst hz
  have hS : va_S (xA s.heap.size) s.heap s.heap [] := va_S.rf
  have hN : ∀ q : Nat, xA s.heap.size q → N0 ≤ q := fun q h => Nat.le_trans hsz h
  obtain ⟨F, hFe⟩ : ∃ F, F = pX11_requireThere a1 := ⟨_, rfl⟩
  have J_9 : ∀ t : Int32, F = pX11_refuse t → W p l e rX11_requireThere s mi ([.int (bz a1)] : List Value).toArray below meth c s.heap [] 0 0 (vx_MQ below (tQ (pX11_requireThere a1) s.heap.size) (tX (pX11_requireThere a1) s.heap.size) ([.int (bz a1)] : List Value).toArray s 1 6 (xA s.heap.size)) (F0 mi 9 ls [.int t]) := by
    intro t hf
    refine x_callS (D := (dC, dI)) (ws := []) (vx_runS (As := [.int t]) (rest := []) ⟨hx, hb, hml, hown, hts⟩ (mX11_refuse l hfl dC dI cI cB cO cL N0 sT eA s.heap.size hsz t) (va_cwS 1 hts gX11_requireThere_X11_refuse rfl rfl rfl (by decide +kernel) ⟨Nat.le_of_ble_eq_true rfl, Nat.le_of_ble_eq_true rfl⟩) ⟨zP_blind, zP_ok va_P_nil hK hF hS hN⟩ rfl rfl hl.1 rfl (lv_room (Nat.le_of_ble_eq_true rfl)) dX11_requireThere_9 ⟨Nat.le_of_ble_eq_true rfl, Nat.le_of_ble_eq_true rfl⟩) va_P_nil hS (fun q h => h) (fun hne q9 ce H locs hP hS hce hcv hcl => ?_) (fun h0 H locs hP hS => ?_)
    · exact vx_out (fun x hx => (htab x hx).elim) hlocks hce hcv hcl (fun t ht hvm => ⟨_, ⟨hf.symm.trans hFe, hne⟩, rfl, hS.F ht⟩) hS.2.2 (Nat.le_refl _) (Nat.le_refl _)
    · refine W.widen (k := 1) (n := 6) (Nat.le_refl _) (Nat.le_refl _) (vx_ret ?_)
      exact W.vret hx hb hr (fun t ht hW => ⟨⟨(), rfl, (hFe.symm.trans hf).trans h0, trivial⟩, hS.F ht⟩) hS.2.2 dX11_requireThere_12 hlocks
  refine lv_iload_n hx hb dX11_requireThere_0 rfl (lv_at hl 0 rfl) ?_
  refine lv_if_eq (tgt := 8) hx hb dX11_requireThere_1 (by decide) (fun c1 => ?_) (fun c1 => ?_)
  · have c1 := bz_f c1
    refine lv_iconst (v := 1) hx hb dX11_requireThere_8 (by decide) ?_
    exact J_9 1 (ie_eq c1 hFe)
  · have c1 := bz_t c1
    refine lv_iconst (v := 0) hx hb dX11_requireThere_4 (by decide) ?_
    refine lv_goto (tgt := 9) hx hb dX11_requireThere_5 (by decide) ?_
    exact J_9 0 (it_eq c1 hFe)
abbrev rX11_requireRange : Room := { frames := 7, cells := 1, slots := 6, locals := 112 }
set_option maxHeartbeats 4000000 in
set_option maxRecDepth 100000 in
theorem mX11_requireRange (l : Launch) (hfl : l.stackTraces = false) (dC : Nat → ClassId) (dI : Nat → Nat → Nat) (cI cB cO cL : ClassId) (N0 : Nat) (sT eA : Nat → Nat) (sz : Nat) (hsz : N0 ≤ sz) (a1 : Bool) : vx_Met l yX11_requireRange wsX11_requireRange rX11_requireRange (zP N0 sz sT eA (dC, dI) (tYS cI cB cO cL) [] [.int (bz a1)]) (tQ (pX11_requireRange a1) sz) (tX (pX11_requireRange a1) sz) 1 6 (xA sz) := by
  refine zMet (cc := cX11_requireRange) (maxL := 1) (ret := none) [(0, .int (bz a1))] (by decide) rfl rfl rfl ?_
  intro p e s mi below meth c C0 htab hz hK hF hP ls hl
  obtain ⟨hx, hb, hr, hml, hown, hts, hlocks⟩ := id C0
  have hown : s.vm.findClass RX11 = some mi.cls := hown
  subst hz
  have hS : va_S (xA s.heap.size) s.heap s.heap [] := va_S.rf
  have hN : ∀ q : Nat, xA s.heap.size q → N0 ≤ q := fun q h => Nat.le_trans hsz h
  obtain ⟨F, hFe⟩ : ∃ F, F = pX11_requireRange a1 := ⟨_, rfl⟩
  have J_9 : ∀ t : Int32, F = pX11_refuse t → W p l e rX11_requireRange s mi ([.int (bz a1)] : List Value).toArray below meth c s.heap [] 0 0 (vx_MQ below (tQ (pX11_requireRange a1) s.heap.size) (tX (pX11_requireRange a1) s.heap.size) ([.int (bz a1)] : List Value).toArray s 1 6 (xA s.heap.size)) (F0 mi 9 ls [.int t]) := by
    intro t hf
    refine x_callS (D := (dC, dI)) (ws := []) (vx_runS (As := [.int t]) (rest := []) ⟨hx, hb, hml, hown, hts⟩ (mX11_refuse l hfl dC dI cI cB cO cL N0 sT eA s.heap.size hsz t) (va_cwS 1 hts gX11_requireRange_X11_refuse rfl rfl rfl (by decide +kernel) ⟨Nat.le_of_ble_eq_true rfl, Nat.le_of_ble_eq_true rfl⟩) ⟨zP_blind, zP_ok va_P_nil hK hF hS hN⟩ rfl rfl hl.1 rfl (lv_room (Nat.le_of_ble_eq_true rfl)) dX11_requireRange_9 ⟨Nat.le_of_ble_eq_true rfl, Nat.le_of_ble_eq_true rfl⟩) va_P_nil hS (fun q h => h) (fun hne q9 ce H locs hP hS hce hcv hcl => ?_) (fun h0 H locs hP hS => ?_)
    · exact vx_out (fun x hx => (htab x hx).elim) hlocks hce hcv hcl (fun t ht hvm => ⟨_, ⟨hf.symm.trans hFe, hne⟩, rfl, hS.F ht⟩) hS.2.2 (Nat.le_refl _) (Nat.le_refl _)
    · refine W.widen (k := 1) (n := 6) (Nat.le_refl _) (Nat.le_refl _) (vx_ret ?_)
      exact W.vret hx hb hr (fun t ht hW => ⟨⟨(), rfl, (hFe.symm.trans hf).trans h0, trivial⟩, hS.F ht⟩) hS.2.2 dX11_requireRange_12 hlocks
  refine lv_iload_n hx hb dX11_requireRange_0 rfl (lv_at hl 0 rfl) ?_
  refine lv_if_eq (tgt := 8) hx hb dX11_requireRange_1 (by decide) (fun c1 => ?_) (fun c1 => ?_)
  · have c1 := bz_f c1
    refine lv_iconst (v := 2) hx hb dX11_requireRange_8 (by decide) ?_
    exact J_9 2 (ie_eq c1 hFe)
  · have c1 := bz_t c1
    refine lv_iconst (v := 0) hx hb dX11_requireRange_4 (by decide) ?_
    refine lv_goto (tgt := 9) hx hb dX11_requireRange_5 (by decide) ?_
    exact J_9 0 (it_eq c1 hFe)
end REFUSE
theorem wA_N {N0 : Nat} {ws : va_W} (h : ∀ a ∈ ws.map Prod.fst, N0 ≤ a) : ∀ q : Nat, wA ws q → N0 ≤ q := fun q ⟨k, e, hk⟩ => h q (List.mem_map.mpr ⟨(q, e), List.mem_of_getElem? hk, rfl⟩)
theorem vA_N {N0 sz : Nat} {ws : va_W} (h : ∀ a ∈ ws.map Prod.fst, N0 ≤ a) (hsz : N0 ≤ sz) : ∀ q : Nat, va_A ws sz q → N0 ≤ q := fun q hq => hq.elim (fun ⟨k, e, hk⟩ => h q (List.mem_map.mpr ⟨(q, e), List.mem_of_getElem? hk, rfl⟩)) (fun h => Nat.le_trans hsz h)
theorem gD_vA {A : Nat → Prop} {ws : va_W} {sz : Nat} (h : gD A (ws.map Prod.fst)) : gD (va_A ws sz) (ws.map Prod.fst) := ⟨h.1, fun a ha => by
  obtain ⟨q, hq, rfl⟩ := List.mem_map.mp ha
  obtain ⟨k, hk⟩ := List.getElem?_of_mem hq
  exact Or.inl ⟨k, q.2, hk⟩⟩
theorem gN_sub {N0 : Nat} {as bs : List Nat} (h : ∀ a ∈ as, N0 ≤ a) (is : List Nat) (hs : is.map (fun i => as[i]?) = bs.map some) : ∀ a ∈ bs, N0 ≤ a := by
  intro a ha
  have h1 : some a ∈ is.map (fun i => as[i]?) := by rw [hs]; exact List.mem_map.mpr ⟨a, ha, rfl⟩
  obtain ⟨i, -, hi⟩ := List.mem_map.mp h1
  exact h a (List.mem_of_getElem? hi)
