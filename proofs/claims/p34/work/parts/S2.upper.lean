/-! THE LAW'S LARGER METHODS: their contracts' shape -/
section SUP
abbrev arW (qg qm qw : Nat → Nat) (cI : ClassId) (g m w : Nat → Int32) : va_W := ia14 qg cI g ++ ia40 qm cI m ++ ia24 qw cI w
abbrev TT : Type := OT × (Nat → Int32) × (Nat → Int32) × (Nat → Int32)
/-- the object and the law's arrays say the same -/
def RelT (v : OT) (g m w : Nat → Int32) : Prop := ∃ C R M W N, DR C R M W N v.1 g m w ∧ SVI M m v.2.1 ∧ UO v.2.2.1
def uA (f : Nat → List Nat) (sz : Nat) : Nat → Prop := fun q => (∃ i, q ∈ f i) ∨ sz ≤ q
theorem gC_u {N0 sz : Nat} {f : Nat → List Nat} (h : gC (fun q => N0 ≤ q) f) : gC (uA f sz) f := ⟨fun i => ⟨(h.1 i).1, fun a ha => Or.inl ⟨i, ha⟩⟩, h.2⟩
theorem uA_N {N0 sz : Nat} {f : Nat → List Nat} (h : gC (fun q => N0 ≤ q) f) (hs : N0 ≤ sz) : ∀ q, uA f sz q → N0 ≤ q := fun q hq => hq.elim (fun ⟨i, hi⟩ => (h.1 i).2 q hi) (fun h => Nat.le_trans hs h)
def tP (N0 sz : Nat) (sT eA : Nat → Nat) (D : va_G) (tys : List (ClassId × FieldType)) (L : Heap → Prop) (av : List Value) : Array Value → State → Prop := va_Pc av (fun U => U.heap.size = sz ∧ L U.heap ∧ va_K D vwCl tys U ∧ eF N0 sT eA U U.heap ∧ nC U)
theorem tP_blind {N0 sz : Nat} {sT eA : Nat → Nat} {D : va_G} {tys : List (ClassId × FieldType)} {L : Heap → Prop} {av : List Value} : FrameBlind (tP N0 sz sT eA D tys L av) := fun a U g mk h => ⟨h.1, h.2.1, h.2.2.1, va_K.moved (u := U) (U := U.calling g mk a) (Vm.Alike.refl U.vm) h.2.2.2.1, ⟨h.2.2.2.2.1.1.call, h.2.2.2.2.1.2.1.call, eH.moved (u := U) (U := U.calling g mk a) (Vm.Alike.refl U.vm) h.2.2.2.2.1.2.2⟩, nC.moved (u := U) (U := U.calling g mk a) (Vm.Alike.refl U.vm) h.2.2.2.2.2⟩
theorem tP_ok {N0 : Nat} {sT eA : Nat → Nat} {D : va_G} {tys : List (ClassId × FieldType)} {L : Heap → Prop} {av : List Value} {s : State} {H : Heap} {A : Nat → Prop} {locs : List Loc} (hP : L H) (hK : va_K D vwCl tys s) (hF : eF N0 sT eA s s.heap) (hC : nC s) (hS : va_S A s.heap H locs) (hN : ∀ q, A q → N0 ≤ q) : ∀ U : State, U.heap = H → s.WarmedH U.vm → tP N0 H.size sT eA D tys L av av.toArray U := fun U hU hW =>
  ⟨rfl, by rw [hU], by rw [hU]; exact hP, va_K.moved hW.alike hK, ⟨hF.1.warm hW, hF.2.1.warm hW, by rw [hU]; exact (hF.2.2.kept (fun a h1 h2 => hS.2.1 a h1 (fun h => h2 (hN a h)))).moved hW.alike⟩, nC.moved hW.alike hC⟩
/-- what stands: the object, the arrays -/
def LT (D : va_G) (cI cB : ClassId) (qb qs qu qr qe qk qx qd qg qm qw : Nat → Nat) (kk : Int32) (v : TT) (H : Heap) : Prop := OI D cI cB qb qs qu qr qe qk qx qd kk v.1 H ∧ va_P D vwCl (arW qg qm qw cI v.2.1 v.2.2.1 v.2.2.2) H
abbrev upQ (D : va_G) (cI cB : ClassId) (qb qs qu qr qe qk qx qd qg qm qw : Nat → Nat) (kk : Int32) (A : Nat → Prop) : Array Value → State → Outcome → State → Prop := va_Qi (fun (r : Int32) (v : TT) => r = 1 ∧ RelT v.1 v.2.1 v.2.2.1 v.2.2.2) (fun v t => LT D cI cB qb qs qu qr qe qk qx qd qg qm qw kk v t.heap) A
theorem tMet {l : Launch} {y : MethodName} {ws ws' : List Cond} {rm : Room} {cc : ByteArray} {maxL : Nat} {N0 sz : Nat} {sT eA : Nat → Nat} {D : va_G} {cI cB cO cL : ClassId} {qb qs qu qr qe qk qx qd qg qm qw : Nat → Nat} {kk : Int32} {v0 : TT} {av : List Value} {mc ms : Nat} (lv0 : List (Nat × Value)) (hsz : N0 ≤ sz) (hG0 : gC (fun q => N0 ≤ q) (cpT qb qs qu qr qe qk [qg 0, qm 0, qw 0]))
    (hy : plainName y.cls = true) (hw : ws = Cond.code y cc maxL (some .boolean) :: ws') (hsl : Nat.ble (lg_sl av).length maxL = true) (hlv : lv_args 0 av = lv0)
    (body : ∀ (p : Program) (e : Env) (s : State) (m : MethodId) (below : List Frame) (meth : Method) (c : Code) (A : Nat → Prop) (QQ : State → Prop), p.tables.exec = Jvm.exec → c.code = cc → c.maxLocals = maxL → s.vm.findClass y.cls = some m.cls → (∀ w ∈ ws, w.before av.toArray s = true) → va_K D vwCl (tYS cI cB cO cL) s → eF N0 sT eA s s.heap → nC s → N0 ≤ s.heap.size → (∀ q, s.heap.size ≤ q → A q) → (∀ q, A q → N0 ≤ q) → gC A (cpT qb qs qu qr qe qk [qg 0, qm 0, qw 0]) →
      OI D cI cB qb qs qu qr qe qk qx qd kk v0.1 s.heap → va_P D vwCl (arW qg qm qw cI v0.2.1 v0.2.2.1 v0.2.2.2) s.heap →
      (∀ (pc : Nat) (H : Heap) (locs : List Loc) (cells slots : Nat) (ls : Array Slot) (v : OT) (g m9 w : Nat → Int32), RelT v g m9 w → OI D cI cB qb qs qu qr qe qk qx qd kk v H → va_P D vwCl (arW qg qm qw cI g m9 w) H → va_S A s.heap H locs → cells ≤ mc → slots ≤ ms → decode cc pc = .ok (.ireturn, 1) → W p l e rm s m av.toArray below meth c H locs cells slots QQ (F0 m pc ls [.int 1])) →
      ∀ ls : Array Slot, lv_has ls maxL lv0 → W p l e rm s m av.toArray below meth c s.heap [] 0 0 QQ (F0 m 0 ls [])) :
    Met l y ws rm (tP N0 sz sT eA D (tYS cI cB cO cL) (LT D cI cB qb qs qu qr qe qk qx qd qg qm qw kk v0) av) (upQ D cI cB qb qs qu qr qe qk qx qd qg qm qw kk (uA (cpT qb qs qu qr qe qk [qg 0, qm 0, qw 0]) sz)) mc ms (uA (cpT qb qs qu qr qe qk [qg 0, qm 0, qw 0]) sz) := by
  refine Met.ofW (cc := cc) (maxL := maxL) (ret := some .boolean) hy hw ?_
  intro p e s m args below meth c s₁ B hml hv
  obtain ⟨rfl, hsz', hP, hK, hF, hC⟩ := hv
  rw [lg_entry_eq]
  have hl := lv_entry av (n := maxL) (Nat.le_of_ble_eq_true hsl)
  rw [hlv] at hl
  subst hsz'
  refine body p e s m below meth c (uA (cpT qb qs qu qr qe qk [qg 0, qm 0, qw 0]) s.heap.size) _ B.exec B.bytes hml (findClass_of_methodNamed B.named) (atoms_spec (ws := ws) B.pre) hK hF hC hsz (fun q h => Or.inr h) (uA_N hG0 hsz) (gC_u hG0) hP.1 hP.2 ?_ _ hl
  intro pc H locs cells slots ls v g m9 w hR hI hW hS hc hs hdg
  refine W.widen hc hs ?_
  exact W.zret B.exec B.bytes B.returns (bz_narrow true) (fun t ht hW9 => ⟨⟨1, (v, g, m9, w), rfl, ⟨rfl, hR⟩, by show LT _ _ _ _ _ _ _ _ _ _ _ _ _ _ _ _ t.heap; rw [ht]; exact ⟨hI, hW⟩⟩, hS.F ht⟩) hS.2.2 hdg B.notSynchronized
theorem nx_div {a d : Nat} (ha : a < 2 ^ 31) (h0 : 0 < d) (hd : d < 2 ^ 31) : nI a / nI d = nI (a / d) := pk_div ha h0 hd
theorem nx_rem {a d : Nat} (ha : a < 2 ^ 31) (h0 : 0 < d) (hd : d < 2 ^ 31) : nI a - nI a / nI d * nI d = nI (a % d) := pk_rem ha h0 hd
theorem nx_mul (a b : Nat) : nI a * nI b = nI (a * b) := pk_mul a b
theorem nx_sub {a b : Nat} (h : b ≤ a) : nI a - nI b = nI (a - b) := pk_sub h
theorem nx_at {f : Nat → Int32} {k : Nat} (h : k < 2 ^ 31) : f (nI k).toNatClampNeg = f k := by rw [nI_clamp h]
theorem nx_up {f : Nat → Int32} {k : Nat} {x : Int32} (h : k < 2 ^ 31) : upd f (nI k).toNatClampNeg x = upd f k x := by rw [nI_clamp h]
end SUP
