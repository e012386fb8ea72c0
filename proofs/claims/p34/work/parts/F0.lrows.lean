/-! THE LAW'S HELPERS: what they make of what is thrown -/
section LROW
theorem cas1 : Cond.castable "java/lang/IndexOutOfBoundsException" "java/lang/IndexOutOfBoundsException" ∈ nXW := by decide +kernel
theorem cas2 : Cond.castable "java/lang/IllegalArgumentException" "java/lang/IllegalArgumentException" ∈ nXW := by decide +kernel
theorem cas3 : Cond.castable "java/lang/IllegalStateException" "java/lang/IllegalStateException" ∈ nXW := by decide +kernel
def nC (U : State) : Prop := va_Nc (xN 1) (xN 2) U ∧ va_Nc (xN 3) (xN 2) U ∧ va_Nc (xN 2) (xN 3) U ∧ va_Nc (xN 1) (xN 3) U ∧ va_Nc (xN 2) (xN 1) U ∧ va_Nc (xN 3) (xN 1) U
theorem nC.moved {u U : State} (hvm : u.vm.Alike U.vm) (h : nC u) : nC U := ⟨h.1.moved hvm, h.2.1.moved hvm, h.2.2.1.moved hvm, h.2.2.2.1.moved hvm, h.2.2.2.2.1.moved hvm, h.2.2.2.2.2.moved hvm⟩
def lP (N0 sz : Nat) (sT eA : Nat → Nat) (D : va_G) (tys : List (ClassId × FieldType)) (w : va_W) (av : List Value) : Array Value → State → Prop := va_Pc av (fun U => U.heap.size = sz ∧ va_P D vwCl w U.heap ∧ va_K D vwCl tys U ∧ eF N0 sT eA U U.heap ∧ nC U)
theorem lP_blind {N0 sz : Nat} {sT eA : Nat → Nat} {D : va_G} {tys : List (ClassId × FieldType)} {w : va_W} {av : List Value} : FrameBlind (lP N0 sz sT eA D tys w av) := fun a U g mk h => ⟨h.1, h.2.1, h.2.2.1, va_K.moved (u := U) (U := U.calling g mk a) (Vm.Alike.refl U.vm) h.2.2.2.1, ⟨h.2.2.2.2.1.1.call, h.2.2.2.2.1.2.1.call, eH.moved (u := U) (U := U.calling g mk a) (Vm.Alike.refl U.vm) h.2.2.2.2.1.2.2⟩, nC.moved (u := U) (U := U.calling g mk a) (Vm.Alike.refl U.vm) h.2.2.2.2.2⟩
theorem lP_ok {N0 : Nat} {sT eA : Nat → Nat} {D : va_G} {tys : List (ClassId × FieldType)} {w : va_W} {av : List Value} {s : State} {H : Heap} {A : Nat → Prop} {locs : List Loc} (hP : va_P D vwCl w H) (hK : va_K D vwCl tys s) (hF : eF N0 sT eA s s.heap) (hC : nC s) (hS : va_S A s.heap H locs) (hN : ∀ q, A q → N0 ≤ q) : ∀ U : State, U.heap = H → s.WarmedH U.vm → lP N0 H.size sT eA D tys w av av.toArray U := fun U hU hW =>
  ⟨rfl, by rw [hU], by rw [hU]; exact hP, va_K.moved hW.alike hK, ⟨hF.1.warm hW, hF.2.1.warm hW, by rw [hU]; exact (hF.2.2.kept (fun a h1 h2 => hS.2.1 a h1 (fun h => h2 (hN a h)))).moved hW.alike⟩, nC.moved hW.alike hC⟩
theorem lMet {l : Launch} {y : MethodName} {ws ws' : List Cond} {rm : Room} {cc : ByteArray} {maxL : Nat} {ret : Option FieldType} {hh : List (Nat × Nat × Nat × Nat)} {N0 sz : Nat} {sT eA : Nat → Nat} {D : va_G} {tys : List (ClassId × FieldType)} {w0 : va_W} {av : List Value} {Qc : Array Value → State → Outcome → State → Prop} {mc ms : Nat} {free : Addr → Prop} (lv0 : List (Nat × Value))
    (hy : plainName y.cls = true) (hw : ws = Cond.codeWith y cc maxL ret hh :: ws') (hsl : Nat.ble (lg_sl av).length maxL = true) (hlv : lv_args 0 av = lv0)
    (body : ∀ (p : Program) (e : Env) (s : State) (m : MethodId) (below : List Frame) (meth : Method) (c : Code), Cx p s m meth c cc ret maxL y.cls av.toArray ws → c.exceptionTable.toList = tableOf hh → s.heap.size = sz → va_K D vwCl tys s → eF N0 sT eA s s.heap → nC s → va_P D vwCl w0 s.heap → ∀ ls : Array Slot, lv_has ls maxL lv0 → W p l e rm s m av.toArray below meth c s.heap [] 0 0 (MQ below Qc av.toArray s mc ms free) (F0 m 0 ls [])) : Met l y ws rm (lP N0 sz sT eA D tys w0 av) Qc mc ms free := by
  refine MetFree.of_bodyS (code := cc) (maxLocals := maxL) (ret := ret) hy ?_ ?_
  · intro args s m h hn
    obtain ⟨m9, meth, c, hn9, h1, h2, h3, h4, -, h5, h6, -⟩ := Cond.codeWith_spec (atoms_spec (ws := ws) h _ (by rw [hw]; exact List.mem_cons_self))
    cases hn.symm.trans hn9
    exact ⟨meth, c, h1, h2, h3, h4, h5, h6⟩
  · intro p e s m args below meth c s₁ B hml hv _
    obtain ⟨rfl, hsz, hP, hK, hF, hC⟩ := hv
    have hh0 : s₁.heap = s.heap := by rw [B.state]; rfl
    have hl := lv_entry av (n := maxL) (Nat.le_of_ble_eq_true hsl)
    rw [hlv] at hl
    have hts := atoms_spec (ws := ws) B.pre
    have htab := vx_table (x := y) B (hts _ (by rw [hw]; exact List.mem_cons_self))
    have k := body p e s m below meth c ⟨B.exec, B.bytes, B.returns, hml, findClass_of_methodNamed B.named, hts, B.notSynchronized⟩ htab hsz hK hF hC hP _ hl
    rw [← lg_entry_eq] at k
    obtain ⟨t, a1, o, b1, b2, b3⟩ := k s₁ hh0 (Stand.of_body B)
    exact ⟨t, o, a1, b1, b2, ⟨b3.1, b3.2⟩⟩
abbrev lo (cL : ClassId) (ao : Nat) (o : Nat → Int64) : va_W := [(ao, .inl (cL, 1, .inr (.inl o)))]
/-- what the helper answers, and what stands then: x1 is what its first handler takes -/
def lF {σ : Type} (x1 : Nat) (f : Nat × (Int32 × σ)) (o : Nat → Int64) : Int32 × (σ × (Nat → Int64)) := if f.1 = 0 then (0, (f.2.2, vp_updL o 0 f.2.1.toInt64)) else if f.1 = x1 then (1, (f.2.2, o)) else (2, (f.2.2, o))
theorem lF_0 {σ : Type} {x1 : Nat} {f : Nat × (Int32 × σ)} {o : Nat → Int64} (h : f.1 = 0) : ((0 : Int32), (f.2.2, vp_updL o 0 f.2.1.toInt64)) = lF x1 f o := (if_pos h).symm
theorem lF_1 {σ : Type} {x1 : Nat} {f : Nat × (Int32 × σ)} {o : Nat → Int64} (h : f.1 ≠ 0) (h1 : f.1 = x1) : ((1 : Int32), (f.2.2, o)) = lF x1 f o := ((if_neg h).trans (if_pos h1)).symm
theorem lF_2 {σ : Type} {x1 : Nat} {f : Nat × (Int32 × σ)} {o : Nat → Int64} (h : f.1 ≠ 0) (h1 : f.1 ≠ x1) : ((2 : Int32), (f.2.2, o)) = lF x1 f o := ((if_neg h).trans (if_neg h1)).symm
abbrev lQ {σ : Type} (D : va_G) (Wd : σ → va_W) (cL : ClassId) (ao : Nat) (A : Nat → Prop) (x1 : Nat) (f : Nat × (Int32 × σ)) (o : Nat → Int64) : Array Value → State → Outcome → State → Prop := va_Qi (fun (r : Int32) (v : σ × (Nat → Int64)) => (r, v) = lF x1 f o) (fun v t => va_P D vwCl (Wd v.1 ++ lo cL ao v.2) t.heap) A
theorem va_P_pre {D : va_G} {cl : List vw_C} {w1 w2 : va_W} {H : Heap} (h : va_P D cl (w1 ++ w2) H) : va_P D cl w1 H := fun k q hq => h k q (by rw [List.getElem?_append_left (List.getElem?_eq_some_iff.mp hq).1]; exact hq)
theorem gD_pre {A : Nat → Prop} {as bs : List Nat} (h : gD A (as ++ bs)) : gD (fun _ => True) as := ⟨fun i j a hi hj => h.1 i j a (by rw [List.getElem?_append_left (List.getElem?_eq_some_iff.mp hi).1]; exact hi) (by rw [List.getElem?_append_left (List.getElem?_eq_some_iff.mp hj).1]; exact hj), fun _ _ => trivial⟩
theorem va_P_off {D : va_G} {cl : List vw_C} {w0 wo : va_W} {H H1 : Heap} {A : Nat → Prop} (hP : va_P D cl (w0 ++ wo) H) (hD : va_D A (w0 ++ wo)) (hk : ∀ q : Nat, q < H.size → ¬ va_A w0 H.size q → H1[q]? = H[q]?) : va_P D cl wo H1 := by
  intro k q hq
  have h1 : (w0 ++ wo)[w0.length + k]? = some q := by
    rw [List.getElem?_append_right (by omega), show w0.length + k - w0.length = k by omega]
    exact hq
  have h2 := hP _ q h1
  refine h2.kept (hk q.1 h2.lt ?_)
  rintro (⟨j, e, hj⟩ | hge)
  · have hl := (List.getElem?_eq_some_iff.mp hj).1
    have hj' : (w0 ++ wo)[j]? = some (q.1, e) := by rw [List.getElem?_append_left hl]; exact hj
    have := hD.1 _ _ _ _ h1 hj' rfl
    omega
  · exact absurd h2.lt (Nat.not_lt.mpr hge)
variable {p : Program} {l : Launch} {e : Env} {R : Room} {s : State} {m : MethodId} {args : Array Value} {below : List Frame} {meth : Method} {c : Code} {H : Heap} {locs : List Loc} {cells slots : Nat} {Q : State → Prop}
variable {pc : Nat} {ls : Array Slot} {rest st0 : List Value} {a : Array Value} {A A0 : Nat → Prop} {D : va_G} {ws wc : va_W} {cc : ByteArray} {nL : Nat} {own : String} {Ts : List Cond}
theorem l_call {σ : Type} {Wd : σ → va_W} {f : Nat × (Int32 × σ)} {w0 wo : va_W} {mc ms : Nat} (hr : vx_Run p l e R s m args below meth c H locs cells slots mc ms (F0 m pc ls st0) rest (yQi D Wd (va_A w0 H.size) f a) (yX D Wd (va_A w0 H.size) f) (va_A w0 H.size))
    (hP : va_P D vwCl (w0 ++ wo) H) (hD : va_D A (w0 ++ wo)) (hS : va_S A s.heap H locs) (hA : ∀ q, s.heap.size ≤ q → A q)
    (kx : f.1 ≠ 0 → ∀ (q9 : Addr) (ce : Cell) (H1 : Heap) (locs1 : List Loc), va_P D vwCl (Wd f.2.2 ++ wo) H1 → va_S A s.heap H1 locs1 → H1[q9]? = some ce → ce.vm = .none → s.vm.findClass (xN f.1) = some ce.cls → vx_W p l e R s m args below meth c H1 locs1 (cells + mc) (slots + ms) Q (F0 m pc ls rest) q9)
    (kk : f.1 = 0 → ∀ (H1 : Heap) (locs1 : List Loc), va_P D vwCl (Wd f.2.2 ++ wo) H1 → va_S A s.heap H1 locs1 → W p l e R s m args below meth c H1 locs1 (cells + mc) (slots + ms) Q (F0 m (pc + 3) ls (.int f.2.1 :: rest))) : W p l e R s m args below meth c H locs cells slots Q (F0 m pc ls st0) := by
  have hsub : ∀ q, va_A w0 H.size q → A q := fun q h => h.elim (fun ⟨k, e9, hk⟩ => hD.2 k (q, e9) (by rw [List.getElem?_append_left (List.getElem?_eq_some_iff.mp hk).1]; exact hk)) (fun h => hA q (Nat.le_trans hS.1 h))
  refine vx_calli hr hS (fun q _ h => hsub q h) hsub (fun q _ h => hsub q h) ?_ ?_
  · intro E ce q9 u t H1 locs1 ht hvm hpx hBX hz hk hS1 hce hcv hcl
    obtain ⟨hu, hne⟩ := hpx
    obtain ⟨hE, hPu⟩ := hBX
    subst hE
    rw [ht, hu] at hPu
    rw [hu] at hne hcl
    exact kx hne q9 ce H1 locs1 (hPu.app (va_P_off hP hD hk)) hS1 hce hcv hcl
  · intro r u t H1 locs1 ht hvm hp hB hz hk hS1
    have hB : va_P D vwCl (Wd u) t.heap := hB
    rw [ht] at hB
    have e1 : f.1 = 0 := by rw [← hp]
    have e2 : f.2.1 = r := by rw [← hp]
    have e3 : f.2.2 = u := by rw [← hp]
    rw [← e3] at hB
    rw [← e2]
    exact kk e1 H1 locs1 (hB.app (va_P_off hP hD hk)) hS1
/-- the end of a helper -/
theorem e_L {σ : Type} {Wd : σ → va_W} {cL : ClassId} {ao x1 : Nat} {f : Nat × (Int32 × σ)} {o : Nat → Int64} {mc ms : Nat} (C0 : Cx p s m meth c cc (some .int) nL own args Ts) {rc : Int32} {v : σ × (Nat → Int64)} (h : (rc, v) = lF x1 f o) (hP : va_P D vwCl (Wd v.1 ++ lo cL ao v.2) H) (hS : va_S A s.heap H locs) (hc : Nat.ble cells mc = true) (hs : Nat.ble slots ms = true) (hdg : decode cc pc = .ok (.ireturn, 1)) : W p l e R s m args below meth c H locs cells slots (MQ below (lQ D Wd cL ao A x1 f o) args s mc ms A) (F0 m pc ls [.int rc]) := by
  obtain ⟨hx, hb, hr, hml, hown, hts, hlocks⟩ := C0
  refine W.widen (Nat.le_of_ble_eq_true hc) (Nat.le_of_ble_eq_true hs) ?_
  exact W.iret hx hb hr (fun t ht hW => ⟨⟨rc, v, rfl, h, by show va_P D vwCl (Wd v.1 ++ lo cL ao v.2) t.heap; rw [ht]; exact hP⟩, hS.F ht⟩) hS.2.2 hdg hlocks
end LROW
