/-! CONSTRUCTORS: contracts with worlds that grow -/
section INITS
def zI {σ : Type} (D : va_G) (h0 : Nat) (W : (Nat → Nat) → va_W) (A : Nat → Prop) : Unit → State → Prop := fun _ t => ∃ q : Nat → Nat, q 0 = h0 ∧ va_P D vwCl (W q) t.heap ∧ va_D A (W q)
def qP (N0 sz : Nat) (sT eA : Nat → Nat) (D : va_G) (tys : List (ClassId × FieldType)) (w : va_W) (av : List Value) : Array Value → State → Prop := va_Pc av (fun U => U.heap.size = sz ∧ va_P D vwCl w U.heap ∧ va_K D vwCl tys U ∧ eF N0 sT eA U U.heap ∧ va_AO RX2 U ∧ va_AO RX3 U)
theorem qP_blind {N0 sz : Nat} {sT eA : Nat → Nat} {D : va_G} {tys : List (ClassId × FieldType)} {w : va_W} {av : List Value} : FrameBlind (qP N0 sz sT eA D tys w av) := fun a U g mk h => ⟨h.1, h.2.1, h.2.2.1, va_K.moved (u := U) (U := U.calling g mk a) (Vm.Alike.refl U.vm) h.2.2.2.1, ⟨h.2.2.2.2.1.1.call, h.2.2.2.2.1.2.1.call, eH.moved (u := U) (U := U.calling g mk a) (Vm.Alike.refl U.vm) h.2.2.2.2.1.2.2⟩, va_AO.moved (u := U) (U := U.calling g mk a) (Vm.Alike.refl U.vm) h.2.2.2.2.2.1, va_AO.moved (u := U) (U := U.calling g mk a) (Vm.Alike.refl U.vm) h.2.2.2.2.2.2⟩
theorem qP_ok {N0 : Nat} {sT eA : Nat → Nat} {D : va_G} {tys : List (ClassId × FieldType)} {w : va_W} {av : List Value} {s : State} {H : Heap} {A : Nat → Prop} {locs : List Loc} (hP : va_P D vwCl w H) (hK : va_K D vwCl tys s) (hF : eF N0 sT eA s s.heap) (hO : va_AO RX2 s ∧ va_AO RX3 s) (hS : va_S A s.heap H locs) (hN : ∀ q, A q → N0 ≤ q) : ∀ U : State, U.heap = H → s.WarmedH U.vm → qP N0 H.size sT eA D tys w av av.toArray U := fun U hU hW =>
  ⟨rfl, by rw [hU], by rw [hU]; exact hP, va_K.moved hW.alike hK, ⟨hF.1.warm hW, hF.2.1.warm hW, by rw [hU]; exact (hF.2.2.kept (fun a h1 h2 => hS.2.1 a h1 (fun h => h2 (hN a h)))).moved hW.alike⟩, va_AO.moved hW.alike hO.1, va_AO.moved hW.alike hO.2⟩
theorem jMet {l : Launch} {y : MethodName} {ws ws' : List Cond} {rm : Room} {cc : ByteArray} {maxL : Nat} {ret : Option FieldType} {N0 sz : Nat} {sT eA : Nat → Nat} {D : va_G} {tys : List (ClassId × FieldType)} {w0 : va_W} {av : List Value} {Qc : Array Value → State → Outcome → State → Prop} {mc ms : Nat} {free : Addr → Prop} (lv0 : List (Nat × Value))
    (hy : plainName y.cls = true) (hw : ws = Cond.code y cc maxL ret :: ws') (hsl : Nat.ble (lg_sl av).length maxL = true) (hlv : lv_args 0 av = lv0)
    (body : ∀ (p : Program) (e : Env) (s : State) (m : MethodId) (below : List Frame) (meth : Method) (c : Code), Cx p s m meth c cc ret maxL y.cls av.toArray ws → meth.name = y.name → s.heap.size = sz → va_K D vwCl tys s → eF N0 sT eA s s.heap → (va_AO RX2 s ∧ va_AO RX3 s) → va_P D vwCl w0 s.heap → ∀ ls : Array Slot, lv_has ls maxL lv0 → W p l e rm s m av.toArray below meth c s.heap [] 0 0 (MQ below Qc av.toArray s mc ms free) (F0 m 0 ls [])) : Met l y ws rm (qP N0 sz sT eA D tys w0 av) Qc mc ms free := by
  refine Met.ofW (cc := cc) (maxL := maxL) (ret := ret) hy hw ?_
  intro p e s m args below meth c s₁ B hml hv
  obtain ⟨rfl, hsz, hP, hK, hF, hO⟩ := hv
  rw [lg_entry_eq]
  have hl := lv_entry av (n := maxL) (Nat.le_of_ble_eq_true hsl)
  rw [hlv] at hl
  exact body p e s m below meth c ⟨B.exec, B.bytes, B.returns, hml, findClass_of_methodNamed B.named, atoms_spec (ws := ws) B.pre, B.notSynchronized⟩ (name_of_methodNamed B.named B.method).1 hsz hK hF hO hP _ hl
theorem gD_w {A : Nat → Prop} {ws : va_W} (h : va_D A ws) : gD A (ws.map Prod.fst) := by
  refine ⟨fun i j a hi hj => ?_, fun a ha => ?_⟩
  · rw [List.getElem?_map] at hi hj
    cases hwi : ws[i]? with
    | none => rw [hwi] at hi; cases hi
    | some p =>
      cases hwj : ws[j]? with
      | none => rw [hwj] at hj; cases hj
      | some q =>
        rw [hwi] at hi
        rw [hwj] at hj
        exact h.1 i j p q hwi hwj ((Option.some.inj hi).trans (Option.some.inj hj).symm)
  · obtain ⟨q, hq, rfl⟩ := List.mem_map.mp ha
    obtain ⟨k, hk⟩ := List.getElem?_of_mem hq
    exact h.2 k q hk
theorem vD1 {h0 sz : Nat} {e : va_E} : va_D (va_A [(h0, e)] sz) [(h0, e)] := by
  refine ⟨fun i j p q hi hj _ => ?_, fun k q hk => Or.inl ⟨k, q.2, hk⟩⟩
  have h1 : i < 1 := (List.getElem?_eq_some_iff.mp hi).1
  have h2 : j < 1 := (List.getElem?_eq_some_iff.mp hj).1
  omega
/-- addresses, by a list -/
def qv (L : List Nat) : Nat → Nat := fun n => L.getD n 0
theorem ck_int {D : va_G} {cl : List vw_C} {tys : List (ClassId × FieldType)} {U : State} {cI cA : ClassId} {i : Nat} (h1 : va_K D cl tys U) (ht : tys[i]? = some (cI, .int)) (h2 : va_K D cl (tys ++ [(cA, .int)]) U) : cA = cI := by
  have a : U.vm.findClass ("[" ++ FieldType.int.toString) = some cI := (h1.2 i _ ht).2
  have b : U.vm.findClass ("[" ++ FieldType.int.toString) = some cA := (h2.2 tys.length (cA, .int) (by simp)).2
  exact Option.some.inj (b.symm.trans a)
theorem ck_obj {D : va_G} {cl : List vw_C} {tys : List (ClassId × FieldType)} {U : State} {cI cA : ClassId} {i : Nat} {C : String} (h1 : va_K D cl tys U) (ht : tys[i]? = some (cI, .object C)) (h2 : va_K D cl (tys ++ [(cA, .object C)]) U) : cA = cI := by
  obtain ⟨-, -, -, -, -, a⟩ : ∃ (kA : Class) (comp : ClassId), U.vm.classes[cI]? = some kA ∧ kA.kind = .array comp (.object C) ∧ U.vm.findClass C = some comp ∧ U.vm.findClass ("[" ++ (FieldType.object C).toString) = some cI := (h1.2 i _ ht).2
  obtain ⟨-, -, -, -, -, b⟩ : ∃ (kA : Class) (comp : ClassId), U.vm.classes[cA]? = some kA ∧ kA.kind = .array comp (.object C) ∧ U.vm.findClass C = some comp ∧ U.vm.findClass ("[" ++ (FieldType.object C).toString) = some cA := (h2.2 tys.length (cA, .object C) (by simp)).2
  exact Option.some.inj (b.symm.trans a)
/-- an array of references is what its places are -/
theorem va_P_q {D : va_G} {cl : List vw_C} {ws : va_W} {H : Heap} {b : Nat} {cA : ClassId} {n : Nat} {f g : Nat → Option Nat} (hP : va_P D cl ws H) (k : Nat) (hk : ws[k]? = some (b, .inl (cA, n, .inr (.inr (.inr (.inr f)))))) (he : ∀ j, j < n → f j = g j) : va_P D cl (ws.set k (b, .inl (cA, n, .inr (.inr (.inr (.inr g)))))) H := by
  intro j q hq
  by_cases e : j = k
  · subst e
    have hl : j < ws.length := (List.getElem?_eq_some_iff.mp hk).1
    rw [List.getElem?_set, if_pos rfl, if_pos hl] at hq
    cases hq
    have h := hP j _ hk
    have ee : vp_cell cA (n, .inr (.inr (.inr (.inr f)))) = vp_cell cA (n, .inr (.inr (.inr (.inr g)))) := by
      rw [vp_cell_q, vp_cell_q]
      unfold arrV
      congr 1
      congr 1
      funext i
      show va_rf (f i.val) = va_rf (g i.val)
      rw [he i.val i.isLt]
    have h : H[b]? = some (vp_cell cA (n, .inr (.inr (.inr (.inr f))))) := h
    show H[b]? = some (vp_cell cA (n, .inr (.inr (.inr (.inr g)))))
    rw [← ee]
    exact h
  · rw [List.getElem?_set_ne (Ne.symm e)] at hq
    exact hP j q hq
section INEW
variable {p : Program} {l : Launch} {e : Env} {R : Room} {s : State} {m : MethodId} {args : Array Value} {below : List Frame} {meth : Method} {c : Code} {H : Heap} {locs : List Loc} {cells slots : Nat} {Q : State → Prop}
variable {pc : Nat} {ls : Array Slot} {rest st0 : List Value} {a : Array Value} {A A0 : Nat → Prop} {H0 : Heap} {D : va_G} {ws wc : va_W} {cc : ByteArray} {nL : Nat} {own : String} {Ts : List Cond}
theorem g_newi {tys : List (ClassId × FieldType)} (hexec : p.tables.exec = Jvm.exec) (hb : c.code = cc) (harr : (Cond.arrayClass .int).before args s = true) (hK : va_K D vwCl tys s) (hP : va_P D vwCl ws H) (hD : va_D A ws) (hS : va_S A H0 H locs) (hA : ∀ q, H0.size ≤ q → A q) (t0 : Nat) {cI : ClassId} (ht : tys[t0]? = some (cI, .int))
    {n : Int32} {N' : Nat} (hn : ¬ n < 0) (hN : n.toNatClampNeg = N') (hbytes : N' * 4 ≤ 536870912) (hcells : cells + 1 ≤ R.cells) (hslots : slots + N' ≤ R.slots) (hdg : decode cc pc = .ok (.newarray .int, 2))
    (kk : ∀ (q : Nat) (H1 : Heap), va_P D vwCl (ws ++ [(q, .inl (cI, N', .inl (fun _ => 0)))]) H1 → va_D A (ws ++ [(q, .inl (cI, N', .inl (fun _ => 0)))]) → va_S A H0 H1 locs → W p l e R s m args below meth c H1 locs (cells + 1) (slots + N') Q (F0 m (pc + 2) ls (.ref q :: rest))) : W p l e R s m args below meth c H locs cells slots Q (F0 m pc ls (.int n :: rest)) :=
  va_newa (atype := .int) (a0 := (N', .inl (fun _ => 0))) hexec hb harr rfl hK hP hD hS hA (fun cA => rfl) hn hN hbytes hcells hslots hdg (fun q cA H1 hK1 hP1 hD1 hS1 => by
    have e := ck_int hK ht hK1
    subst e
    exact kk q H1 hP1 hD1 hS1)
theorem g_newo {tys : List (ClassId × FieldType)} (hexec : p.tables.exec = Jvm.exec) (hb : c.code = cc) {C : String} {index : Nat} (hown : s.vm.findClass own = some m.cls) (hclink : (Cond.classLink own index C).before args s = true) (hover : va_AO C s) (hK : va_K D vwCl tys s) (hP : va_P D vwCl ws H) (hD : va_D A ws) (hS : va_S A H0 H locs) (hA : ∀ q, H0.size ≤ q → A q) (t0 : Nat) {cI : ClassId} (ht : tys[t0]? = some (cI, .object C))
    {n : Int32} {N' : Nat} (hn : ¬ n < 0) (hN : n.toNatClampNeg = N') (hbytes : N' * 4 ≤ 536870912) (hcells : cells + 1 ≤ R.cells) (hslots : slots + N' ≤ R.slots) (hdg : decode cc pc = .ok (.anewarray index, 3))
    (kk : ∀ (q : Nat) (H1 : Heap), va_P D vwCl (ws ++ [(q, .inl (cI, N', .inr (.inr (.inr (.inr (fun _ => none))))))]) H1 → va_D A (ws ++ [(q, .inl (cI, N', .inr (.inr (.inr (.inr (fun _ => none))))))]) → va_S A H0 H1 locs → W p l e R s m args below meth c H1 locs (cells + 1) (slots + N') Q (F0 m (pc + 3) ls (.ref q :: rest))) : W p l e R s m args below meth c H locs cells slots Q (F0 m pc ls (.int n :: rest)) :=
  va_newq hexec hb hown hclink hover hK hP hD hS hA hn hN hbytes hcells hslots hdg (fun q cA H1 hK1 hP1 hD1 hS1 => by
    have e := ck_obj hK ht hK1
    subst e
    exact kk q H1 hP1 hD1 hS1)
/-- the end of a constructor -/
theorem e_iv (C0 : Cx p s m meth c cc none nL own args Ts) {h0 : Nat} {Wd : (Nat → Nat) → va_W} {mc ms : Nat} {q : Nat → Nat} (e0 : q 0 = h0) (hP : va_P D vwCl (Wd q) H) (hD : va_D A (Wd q)) (hS : va_S A s.heap H locs) (hc : cells ≤ mc) (hs : slots ≤ ms) (hdg : decode cc pc = .ok (.return_, 1)) : W p l e R s m args below meth c H locs cells slots (MQ below (va_Qv (fun _ : Unit => True) (zI (σ := Unit) D h0 Wd A) A) args s mc ms A) (F0 m pc ls []) := by
  obtain ⟨hx, hb, hr, hml, hown, hts, hlocks⟩ := C0
  refine W.widen (k := mc) (n := ms) hc hs ?_
  exact W.vret hx hb hr (fun t ht hW => ⟨⟨(), rfl, trivial, q, e0, by rw [ht]; exact hP, hD⟩, hS.F ht⟩) hS.2.2 hdg hlocks
end INEW
abbrev rX9_init (c9 w9 : Nat) : Room := { frames := 1, cells := 1, slots := c9 * w9, locals := 23 }
set_option maxHeartbeats 4000000 in
set_option maxRecDepth 100000 in
theorem mX9_init (l : Launch) (dC : Nat → ClassId) (dI : Nat → Nat → Nat) (cI cB cO cL : ClassId) (N0 : Nat) (sT eA : Nat → Nat) (h0 : Nat) (c9 w9 : Nat) (hc9 : c9 * w9 ≤ 1000) (sz : Nat) (hsz : N0 ≤ sz) (hh : N0 ≤ h0) : Met l yX9_init wsX9_init (rX9_init c9 w9) (qP N0 sz sT eA (dC, dI) (tYS cI cB cO cL) [(h0, .inr (6, [.int 0, .int 0, .null, .int 0]))] [.ref h0, .int (nI c9), .int (nI w9)]) (va_Qv (fun _ : Unit => True) (zI (σ := Unit) (dC, dI) h0 (fun q => tw q cI (nI c9) (nI w9) (c9 * w9) ((0 : Int32), (fun _ => 0))) (va_A [(h0, .inr (6, [.int 0, .int 0, .null, .int 0]))] sz)) (va_A [(h0, .inr (6, [.int 0, .int 0, .null, .int 0]))] sz)) 1 (c9 * w9) (va_A [(h0, .inr (6, [.int 0, .int 0, .null, .int 0]))] sz) := by
  refine jMet (cc := cX9_init) (maxL := 3) (ret := none) [(0, .ref h0), (1, .int (nI c9)), (2, .int (nI w9))] (by decide) rfl rfl rfl ?_
  intro p e s mi below meth c C0 hin hz hK hF hO hP ls hl
  obtain ⟨hx, hb, hr, hml, hown, hts, hlocks⟩ := id C0
  have hown : s.vm.findClass RX9 = some mi.cls := hown
  subst hz
  have hN : ∀ q : Nat, (va_A [(h0, .inr (6, [.int 0, .int 0, .null, .int 0]))] s.heap.size) q → N0 ≤ q := vA_N (ws := [(h0, .inr (6, [.int 0, .int 0, .null, .int 0]))]) (fun a ha => by have e9 : a = h0 := List.mem_singleton.mp ha; rw [e9]; exact hh) hsz
  have hA : ∀ q : Nat, s.heap.size ≤ q → (va_A [(h0, .inr (6, [.int 0, .int 0, .null, .int 0]))] s.heap.size) q := fun q h => Or.inr h
  have hD : va_D (va_A [(h0, .inr (6, [.int 0, .int 0, .null, .int 0]))] s.heap.size) ([(h0, .inr (6, [.int 0, .int 0, .null, .int 0]))]) := vD1
  generalize hAe : va_A [(h0, .inr (6, [.int 0, .int 0, .null, .int 0]))] s.heap.size = A at hN hA hD ⊢
  have hS : va_S A s.heap s.heap [] := va_S.rf
  have hH := hF.2.2.narrow hN
  have hP : va_P (dC, dI) vwCl ([(h0, .inr (6, [.int 0, .int 0, .null, .int 0]))]) s.heap := hP
  have hin9 : ∀ w ∈ u_ws RX9 TX9 4, w ∈ wsX9_init := by decide +kernel
  have oi3 := hts (.methodLink RX9 3 objectInit) (by decide +kernel)
  have fl9 := hts (.fieldLink RX9 9 "ClickBench$Table" "count" "I") (by decide +kernel)
  have fl15 := hts (.fieldLink RX9 15 "ClickBench$Table" "capacity" "I") (by decide +kernel)
  have fl18 := hts (.fieldLink RX9 18 "ClickBench$Table" "width" "I") (by decide +kernel)
  have ml21 := hts (.methodLink RX9 21 Lib.Math.max.name) (by decide +kernel)
  have ms21 := hts (.static Lib.Math.max.name) (by decide +kernel)
  have mI := hts (.initialized "java/lang/Math") (by decide +kernel)
  have mc21 := hts (.code Lib.Math.max.name Lib.Math.max.code 2 (some .int)) (by decide +kernel)
  have fl27 := hts (.fieldLink RX9 27 "ClickBench$Table" "values" "[I") (by decide +kernel)
  have en9 : jmax (nI c9 * nI w9) 0 = nI (c9 * w9) := by rw [pk_mul]; exact if_neg (nI_pos (by omega))
  have hn9 : ¬ jmax (nI c9 * nI w9) 0 < 0 := by rw [en9]; exact nI_pos (by omega)
  have hN9 : (jmax (nI c9 * nI w9) 0).toNatClampNeg = c9 * w9 := by rw [en9]; exact nI_clamp (by omega)
  have hB9 : c9 * w9 * 4 ≤ 536870912 := by omega
  refine lv_aload_n hx hb dX9_init_0 rfl (lv_at hl 0 rfl) ?_
  refine W.objInit hx hb hown oi3 (hts (.instanceMethod objectInit) (by decide +kernel)) (hts (.code objectInit ⟨#[0xb1]⟩ 1 none) (by decide +kernel)) rfl (by rw [hml]; exact hl.1) rfl dX9_init_1 (Nat.le_of_ble_eq_true rfl) (Nat.le_of_ble_eq_true rfl) ?_
  refine lv_aload_n hx hb dX9_init_4 rfl (lv_at hl 0 rfl) ?_
  refine lv_iconst (v := 0) hx hb dX9_init_5 (by decide) ?_
  refine va_put (D := (dC, dI)) (ci := 6) (v := .int 0) (ty := .int) (C := RX9) (T := TX9) (N := 4) hx hb hts hin9 tyX9 tyX9_ok nmX9 hown hK hP hD hS 0 rfl rfl 3 (by decide) fl9 (fun _ h9 => h9) rfl (by decide +kernel) rfl rfl (Nat.le_of_ble_eq_true rfl) dX9_init_6 (fun H locs hP hD hS => ?_)
  have hP : va_P (dC, dI) vwCl ([(h0, .inr (6, [.int 0, .int 0, .null, .int 0]))]) H := hP
  have hD : va_D A ([(h0, .inr (6, [.int 0, .int 0, .null, .int 0]))]) := hD
  refine lv_aload_n hx hb dX9_init_9 rfl (lv_at hl 0 rfl) ?_
  refine lv_iload_n hx hb dX9_init_10 rfl (lv_at hl 1 rfl) ?_
  refine va_putF (D := (dC, dI)) (ci := 6) (v := .int (nI c9)) (ty := .int) (C := RX9) (T := TX9) (N := 4) hx hb hts hin9 tyX9 tyX9_ok nmX9 hown hK hP hD hS 0 rfl rfl 0 (by decide) fl15 (fun _ h9 => h9) rfl hin rfl (by decide +kernel) rfl rfl (Nat.le_of_ble_eq_true rfl) dX9_init_11 (fun H locs hP hD hS => ?_)
  have hP : va_P (dC, dI) vwCl ([(h0, .inr (6, [.int (nI c9), .int 0, .null, .int 0]))]) H := hP
  have hD : va_D A ([(h0, .inr (6, [.int (nI c9), .int 0, .null, .int 0]))]) := hD
  refine lv_aload_n hx hb dX9_init_14 rfl (lv_at hl 0 rfl) ?_
  refine lv_iload_n hx hb dX9_init_15 rfl (lv_at hl 2 rfl) ?_
  refine va_putF (D := (dC, dI)) (ci := 6) (v := .int (nI w9)) (ty := .int) (C := RX9) (T := TX9) (N := 4) hx hb hts hin9 tyX9 tyX9_ok nmX9 hown hK hP hD hS 0 rfl rfl 1 (by decide) fl18 (fun _ h9 => h9) rfl hin rfl (by decide +kernel) rfl rfl (Nat.le_of_ble_eq_true rfl) dX9_init_16 (fun H locs hP hD hS => ?_)
  have hP : va_P (dC, dI) vwCl ([(h0, .inr (6, [.int (nI c9), .int (nI w9), .null, .int 0]))]) H := hP
  have hD : va_D A ([(h0, .inr (6, [.int (nI c9), .int (nI w9), .null, .int 0]))]) := hD
  refine lv_aload_n hx hb dX9_init_19 rfl (lv_at hl 0 rfl) ?_
  refine lv_iload_n hx hb dX9_init_20 rfl (lv_at hl 1 rfl) ?_
  refine lv_iload_n hx hb dX9_init_21 rfl (lv_at hl 2 rfl) ?_
  refine lv_imul hx hb dX9_init_22 ?_
  refine lv_iconst (v := 0) hx hb dX9_init_23 (by decide) ?_
  refine va_mmax hx hb (hml.trans hl.1.symm) hown ml21 ms21 mI mc21 (Nat.le_of_ble_eq_true rfl) (Nat.le_of_ble_eq_true rfl) (Nat.zero_le _) (Nat.zero_le _) dX9_init_24 ?_
  refine g_newi (tys := (tYS cI cB cO cL)) (N' := (c9 * w9)) hx hb (hts (.arrayClass .int) (by decide +kernel)) hK hP hD hS hA 0 rfl hn9 hN9 hB9 (Nat.le_of_ble_eq_true rfl) (Nat.le_of_eq (Nat.zero_add _)) dX9_init_27 (fun r1 H hP hD hS => ?_)
  have hP : va_P (dC, dI) vwCl ([(h0, .inr (6, [.int (nI c9), .int (nI w9), .null, .int 0]))] ++ [(r1, .inl (cI, (c9 * w9), .inl (fun _ => 0)))]) H := hP
  have hD : va_D A ([(h0, .inr (6, [.int (nI c9), .int (nI w9), .null, .int 0]))] ++ [(r1, .inl (cI, (c9 * w9), .inl (fun _ => 0)))]) := hD
  refine va_putF (D := (dC, dI)) (ci := 6) (v := .ref r1) (ty := (.array .int)) (C := RX9) (T := TX9) (N := 4) hx hb hts hin9 tyX9 tyX9_ok nmX9 hown hK hP hD hS 0 rfl rfl 2 (by decide) fl27 (fun _ h9 => h9) rfl hin rfl (by decide +kernel) rfl rfl (Nat.le_of_ble_eq_true rfl) dX9_init_29 (fun H locs hP hD hS => ?_)
  have hP : va_P (dC, dI) vwCl ([(h0, .inr (6, [.int (nI c9), .int (nI w9), .ref r1, .int 0]))] ++ [(r1, .inl (cI, (c9 * w9), .inl (fun _ => 0)))]) H := hP
  have hD : va_D A ([(h0, .inr (6, [.int (nI c9), .int (nI w9), .ref r1, .int 0]))] ++ [(r1, .inl (cI, (c9 * w9), .inl (fun _ => 0)))]) := hD
  exact e_iv C0 (Wd := fun q => tw q cI (nI c9) (nI w9) (c9 * w9) ((0 : Int32), (fun _ => 0))) (q := qv [h0, r1]) rfl hP hD hS (Nat.le_of_ble_eq_true rfl) (Nat.le_of_eq (Nat.zero_add _)) dX9_init_32
end INITS
