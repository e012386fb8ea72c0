/-! THE LAW: its arrays; methods that make an array of their own -/
section LPRE
abbrev ia1 (q : Nat → Nat) : List Nat := [q 0]
abbrev ia14 (q : Nat → Nat) (cI : ClassId) (f : Nat → Int32) : va_W := [(q 0, .inl (cI, 14, .inl f))]
abbrev ia40 (q : Nat → Nat) (cI : ClassId) (f : Nat → Int32) : va_W := [(q 0, .inl (cI, 40, .inl f))]
abbrev ia24 (q : Nat → Nat) (cI : ClassId) (f : Nat → Int32) : va_W := [(q 0, .inl (cI, 24, .inl f))]
abbrev ia60 (q : Nat → Nat) (cI : ClassId) (f : Nat → Int32) : va_W := [(q 0, .inl (cI, 60, .inl f))]
abbrev iaN (q : Nat → Nat) (cI : ClassId) (len : Nat) (f : Nat → Int32) : va_W := [(q 0, .inl (cI, len, .inl f))]
def nP (sz : Nat) (D : va_G) (tys : List (ClassId × FieldType)) (w : va_W) (av : List Value) : Array Value → State → Prop := va_Pc av (fun U => U.heap.size = sz ∧ va_P D vwCl w U.heap ∧ va_K D vwCl tys U)
theorem nP_blind {sz : Nat} {D : va_G} {tys : List (ClassId × FieldType)} {w : va_W} {av : List Value} : FrameBlind (nP sz D tys w av) := fun a U g mk h => ⟨h.1, h.2.1, h.2.2.1, va_K.moved (u := U) (U := U.calling g mk a) (Vm.Alike.refl U.vm) h.2.2.2⟩
theorem nP_ok {D : va_G} {tys : List (ClassId × FieldType)} {w : va_W} {av : List Value} {s : State} {H : Heap} (hP : va_P D vwCl w H) (hK : va_K D vwCl tys s) : ∀ U : State, U.heap = H → s.WarmedH U.vm → nP H.size D tys w av av.toArray U := fun U hU hW => ⟨rfl, by rw [hU], by rw [hU]; exact hP, va_K.moved hW.alike hK⟩
theorem nMet {l : Launch} {y : MethodName} {ws ws' : List Cond} {rm : Room} {cc : ByteArray} {maxL : Nat} {ret : Option FieldType} {sz : Nat} {D : va_G} {tys : List (ClassId × FieldType)} {w0 : va_W} {av : List Value} {Qc : Array Value → State → Outcome → State → Prop} {mc ms : Nat} {free : Addr → Prop} (lv0 : List (Nat × Value))
    (hy : plainName y.cls = true) (hw : ws = Cond.code y cc maxL ret :: ws') (hsl : Nat.ble (lg_sl av).length maxL = true) (hlv : lv_args 0 av = lv0)
    (body : ∀ (p : Program) (e : Env) (s : State) (m : MethodId) (below : List Frame) (meth : Method) (c : Code), Cx p s m meth c cc ret maxL y.cls av.toArray ws → s.heap.size = sz → va_K D vwCl tys s → va_P D vwCl w0 s.heap → ∀ ls : Array Slot, lv_has ls maxL lv0 → W p l e rm s m av.toArray below meth c s.heap [] 0 0 (MQ below Qc av.toArray s mc ms free) (F0 m 0 ls [])) : Met l y ws rm (nP sz D tys w0 av) Qc mc ms free := by
  refine Met.ofW (cc := cc) (maxL := maxL) (ret := ret) hy hw ?_
  intro p e s m args below meth c s₁ B hml hv
  obtain ⟨rfl, hsz, hP, hK⟩ := hv
  rw [lg_entry_eq]
  have hl := lv_entry av (n := maxL) (Nat.le_of_ble_eq_true hsl)
  rw [hlv] at hl
  exact body p e s m below meth c ⟨B.exec, B.bytes, B.returns, hml, findClass_of_methodNamed B.named, atoms_spec (ws := ws) B.pre, B.notSynchronized⟩ hsz hK hP _ hl
variable {p : Program} {l : Launch} {e : Env} {R : Room} {s : State} {m : MethodId} {args : Array Value} {below : List Frame} {meth : Method} {c : Code} {H : Heap} {locs : List Loc} {cells slots : Nat} {Q : State → Prop}
variable {pc : Nat} {ls : Array Slot} {rest st0 : List Value} {a : Array Value} {A A0 : Nat → Prop} {H0 : Heap} {D : va_G} {ws wc : va_W} {cc : ByteArray} {nL : Nat} {own : String} {Ts : List Cond}
/-- the end of a method that has made an array for itself -/
theorem e_hi {σ : Type} {Wd : σ → va_W} {wx : va_W} {f : Int32 × σ} (C0 : Cx p s m meth c cc (some .int) nL own args Ts) {v : Int32} {u : σ} (h : (v, u) = f) (hP : va_P D vwCl (Wd u ++ wx) H) (hS : va_S A s.heap H locs) (hdg : decode cc pc = .ok (.ireturn, 1)) : W p l e R s m args below meth c H locs 1 60 (MQ below (gQi D Wd A f) args s 1 60 A) (F0 m pc ls [.int v]) := by
  obtain ⟨hx, hb, hr, hml, hown, hts, hlocks⟩ := C0
  have hP2 : va_P D vwCl (Wd u) H := va_P_pre hP
  exact W.iret hx hb hr (fun t ht hW => ⟨⟨v, u, rfl, h, by show va_P D vwCl (Wd u) t.heap; rw [ht]; exact hP2⟩, hS.F ht⟩) hS.2.2 hdg hlocks
end LPRE
