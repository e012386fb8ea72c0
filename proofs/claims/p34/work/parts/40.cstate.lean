/-! THE CLASS: its links between nest mates, contracts' starts, its state -/
section CST
/-- the links of private methods of nest mates, out of the tables -/
def nEST : List (String × Nat × MethodName × String) := [(RX11, 18, yX1_init, "ClickBench"), (RX11, 53, yX4_init, "ClickBench"), (RX11, 46, yX5_init, "ClickBench"), (RX11, 25, yX6_init, "ClickBench"), (RX11, 32, yX8_init, "ClickBench"), (RX2, 65, yX11_isBetween, "ClickBench"), (RX2, 86, yX11_isClickPlace, "ClickBench"), (RX6, 11, yX1_init, "ClickBench"), (RX8, 66, yX11_isBetween, "ClickBench")]
def eN (U : State) : Prop := (∀ q ∈ nEST, va_Nw (.methodLinkNest q.1 q.2.1 q.2.2.1 q.2.2.2) U) ∧ True
theorem eN.warm {s U : State} (hW : s.WarmedH U.vm) (h : eN s) : eN U := ⟨fun q hq => va_Nw.warmM hW (h.1 q hq), trivial⟩
theorem eN.call {U : State} {g : JFrame} {mk : MethodId} {a : Array Value} (h : eN U) : eN (U.calling g mk a) := ⟨fun q hq => va_Nw.same rfl (rfl : U.vm = (U.calling g mk a).vm) (h.1 q hq), trivial⟩
theorem eN.at {own host : String} {idx : Nat} {y : MethodName} {U : State} (h : eN U) (hm : (own, idx, y, host) ∈ nEST) : va_Nw (.methodLinkNest own idx y host) U := h.1 _ hm
def cP (D : va_G) (tys : List (ClassId × FieldType)) (w : va_W) (av : List Value) : Array Value → State → Prop := va_Pc av (fun U => va_P D vwCl w U.heap ∧ va_K D vwCl tys U ∧ eN U)
theorem cP_blind {D : va_G} {tys : List (ClassId × FieldType)} {w : va_W} {av : List Value} : FrameBlind (cP D tys w av) := fun a U g mk h => ⟨h.1, h.2.1, va_K.moved (u := U) (U := U.calling g mk a) (Vm.Alike.refl U.vm) h.2.2.1, h.2.2.2.call⟩
theorem cP_ok {D : va_G} {tys : List (ClassId × FieldType)} {w : va_W} {av : List Value} {s : State} {H : Heap} (hP : va_P D vwCl w H) (hK : va_K D vwCl tys s) (hE : eN s) : ∀ U : State, U.heap = H → s.WarmedH U.vm → cP D tys w av av.toArray U := fun U hU hW => ⟨rfl, by rw [hU]; exact hP, va_K.moved hW.alike hK, hE.warm hW⟩
theorem cMet {l : Launch} {y : MethodName} {ws ws' : List Cond} {rm : Room} {cc : ByteArray} {maxL : Nat} {ret : Option FieldType} {D : va_G} {tys : List (ClassId × FieldType)} {w0 : va_W} {av : List Value} {Qc : Array Value → State → Outcome → State → Prop} {mc ms : Nat} {free : Addr → Prop} (lv0 : List (Nat × Value))
    (hy : plainName y.cls = true) (hw : ws = Cond.code y cc maxL ret :: ws') (hsl : Nat.ble (lg_sl av).length maxL = true) (hlv : lv_args 0 av = lv0)
    (body : ∀ (p : Program) (e : Env) (s : State) (m : MethodId) (below : List Frame) (meth : Method) (c : Code), Cx p s m meth c cc ret maxL y.cls av.toArray ws → va_K D vwCl tys s → eN s → va_P D vwCl w0 s.heap → ∀ ls : Array Slot, lv_has ls maxL lv0 → W p l e rm s m av.toArray below meth c s.heap [] 0 0 (MQ below Qc av.toArray s mc ms free) (F0 m 0 ls [])) : Met l y ws rm (cP D tys w0 av) Qc mc ms free := by
  refine Met.ofW (cc := cc) (maxL := maxL) (ret := ret) hy hw ?_
  intro p e s m args below meth c s₁ B hml hv
  obtain ⟨rfl, hP, hK, hE⟩ := hv
  rw [lg_entry_eq]
  have hl := lv_entry av (n := maxL) (Nat.le_of_ble_eq_true hsl)
  rw [hlv] at hl
  exact body p e s m below meth c ⟨B.exec, B.bytes, B.returns, hml, findClass_of_methodNamed B.named, atoms_spec (ws := ws) B.pre, B.notSynchronized⟩ hK hE hP _ hl
end CST
def jmax (x y : Int32) : Int32 := if x < y then y else x
def jmin (x y : Int32) : Int32 := if y < x then y else x
def jmaxL (x y : Int64) : Int64 := if y < x then x else y
def jminL (x y : Int64) : Int64 := if y < x then y else x
def jabs (x : Int32) : Int32 := if 0 ≤ x then x else 0 - x
/-- a table: its count, its values; a bench: its ints (columns, rows, clicks, s, four counts), its four tables' values; a survey -/
abbrev TS : Type := Int32 × (Nat → Int32)
abbrev BS : Type := (Nat → Int32) × (Nat → Nat → Int32)
abbrev SS : Type := (Nat → Int32) × (Nat → Nat → Int32)
def bsi (b : BS) (k : Nat) (x : Int32) : BS := (upd b.1 k x, b.2)
def bsa (b : BS) (k : Nat) (f : Nat → Int32) : BS := (b.1, updA b.2 k f)
def bst (b : BS) (j : Nat) (t : TS) : BS := (upd b.1 (4 + j) t.1, updA b.2 j t.2)
def ssi (b : SS) (k : Nat) (x : Int32) : SS := (upd b.1 k x, b.2)
def ssa (b : SS) (k : Nat) (f : Nat → Int32) : SS := (b.1, updA b.2 k f)
def tad (a b : Nat) : Nat → Nat
  | 0 => a
  | _ => b
def aad (a b c : Nat) : Nat → Nat
  | 0 => a
  | 1 => b
  | _ => c
theorem gD_subT {A : Nat → Prop} {as bs : List Nat} (h : gD A as) (is : List Nat) (hn : va_nd is = true) (hs : is.map (fun i => as[i]?) = bs.map some) : gD (fun _ => True) bs := gD_any (gD_sub h is hn hs)
abbrev US : Type := (Nat → Int32) × (Nat → BS)
def usi (u : US) (k : Nat) (x : Int32) : US := (upd u.1 k x, u.2)
def usb (u : US) (k : Nat) (b : BS) : US := (u.1, fun j => if j = k then b else u.2 j)
def ush (q : Nat → Nat) (n : Nat) : Nat → Nat := fun i => q (n + i)
section CROWS
variable {p : Program} {l : Launch} {e : Env} {R : Room} {s : State} {m : MethodId} {args : Array Value} {below : List Frame} {meth : Method} {c : Code} {H : Heap} {locs : List Loc} {cells slots : Nat} {Q : State → Prop}
variable {pc : Nat} {ls : Array Slot} {rest st0 : List Value} {a : Array Value} {A A0 : Nat → Prop} {H0 : Heap} {D : va_G} {ws wc : va_W} {cc : ByteArray} {nL : Nat} {own : String} {Ts : List Cond}
theorem g_aaldK {tys : List (ClassId × FieldType)} (hexec : p.tables.exec = Jvm.exec) (hb : c.code = cc) (hK : va_K D vwCl tys s) (hP : va_P D vwCl ws H) (q0 t0 : Nat) {cA : ClassId} {C : String} {b n k x : Nat} {f : Nat → Option Nat} (ha : ws[q0]? = some (b, .inl (cA, n, .inr (.inr (.inr (.inr f)))))) (ht : tys[t0]? = some (cA, .object C)) {i : Int32} (hi : i.toNatClampNeg = k) (h0 : ¬ i < 0) (hkn : k < n) (hf : f k = some x) (hdg : decode cc pc = .ok (.aaload, 1))
    (kk : W p l e R s m args below meth c H locs cells slots Q (F0 m (pc + 1) ls (.ref x :: rest))) : W p l e R s m args below meth c H locs cells slots Q (F0 m pc ls (.int i :: .ref b :: rest)) := by
  subst hi
  refine va_aldq hexec hb hK hP q0 t0 ha ht (fun h => h.elim h0 (fun h => absurd hkn (Nat.not_lt.mpr h))) hdg ?_
  rw [hf]
  exact kk
/-- the end of a method that only reads, with one of a few references -/
abbrev gRr (ad : Nat → Value) (f : Nat) : Array Value → State → Outcome → State → Prop := va_Sr (fun k => k = f) ad
theorem e_rr {C : String} (C0 : Cx p s m meth c cc (some (.object C)) nL own args Ts) {ad : Nat → Value} {k f z : Nat} (hv : ad k = .ref z) (h : k = f) (hdg : decode cc pc = .ok (.areturn, 1)) : W p l e R s m args below meth c s.heap [] 0 0 (MQ below (gRr ad f) args s 0 0 (fun _ => False)) (F0 m pc ls [.ref z]) := by
  obtain ⟨hx, hb, hr, hml, hown, hts, hlocks⟩ := C0
  exact W.aret hx hb hr (Or.inl ⟨_, rfl⟩) (Or.inr ⟨_, rfl⟩) (fun t ht hW => ⟨k, by rw [hv], h, ht⟩) (fun q h => absurd h List.not_mem_nil) hdg hlocks
end CROWS
