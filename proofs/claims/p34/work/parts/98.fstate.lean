/-! THE CLASS WITH ITS STATICS: tables, the enum, texts, what a throw needs; all of it below the address N0, never written -/
section FST
abbrev aN (N0 : Nat) : Nat → Prop := fun q => N0 ≤ q
abbrev sv (l : List Int32) : Nat → Value := fun j => .int (l.getD j 0)
abbrev sL0 : List Int32 := [4, 3, 4, 1]
abbrev sL1 : List Int32 := [340, 1, 0, 0, 10, 0, 20]
abbrev sL2 : List Int32 := [100, 1, 0, 0, 0, 0, 0]
abbrev sL3 : List Int32 := [1000, 2, 100, 50, 1000, 1, 500]
abbrev sL4 : List Int32 := [1, 2, 3, 4, 5, 6, 0]
abbrev cmN : List String := ["FIELD", "MIC", "WALL", "SCREEN", "SET", "CLICK", "KNOWN"]
abbrev cmF : List (String × String × String × List Int32) := [("java/lang/Enum", "ordinal", "I", [0, 1, 2, 3, 4, 5, 6]), ("ClickBench$Command", "numbers", "I", [2, 2, 3, 4, 2, 3, 3])]
abbrev cmL : List Nat := [5, 3, 4, 6, 3, 5, 5]
abbrev cmB : List (List Int32) := [[102, 105, 101, 108, 100], [109, 105, 99], [119, 97, 108, 108], [115, 99, 114, 101, 101, 110], [115, 101, 116], [99, 108, 105, 99, 107], [107, 110, 111, 119, 110]]
/-- a fact of the heap that moves with like tables, stays where the cells below N0 stay, and holds for less -/
def sTab (C n : String) (t : Nat) (l : List Int32) (A : Nat → Prop) (U : State) (H : Heap) : Prop := va_Z C n "[I" (.ref t) A U H ∧ va_T .int t l.length (sv l) A U H
def eH (sT eA : Nat → Nat) (A : Nat → Prop) (U : State) (H : Heap) : Prop :=
  sTab "ClickBench" "PARTS" (sT 0) sL0 A U H ∧ sTab "ClickBench" "FIRST_SETTINGS" (sT 1) sL1 A U H ∧ sTab "ClickBench" "LEAST_SETTINGS" (sT 2) sL2 A U H ∧ sTab "ClickBench" "GREATEST_SETTINGS" (sT 3) sL3 A U H ∧
  True ∧ True ∧ True ∧ True ∧
  vx_Zq Bundle.tN "UNASSIGNED_STACK" Bundle.steD A U H ∧ vx_Zq Bundle.tN "SUPPRESSED_SENTINEL" Bundle.listD A U H
theorem eH.moved {sT eA : Nat → Nat} {A : Nat → Prop} {u U : State} {H : Heap} (hvm : u.vm.Alike U.vm) (h : eH sT eA A u H) : eH sT eA A U H := by
  obtain ⟨⟨a1, a2⟩, ⟨b1, b2⟩, ⟨c1, c2⟩, ⟨d1, d2⟩, -, -, -, -, j, k⟩ := h
  exact ⟨⟨a1.moved hvm, a2.moved hvm⟩, ⟨b1.moved hvm, b2.moved hvm⟩, ⟨c1.moved hvm, c2.moved hvm⟩, ⟨d1.moved hvm, d2.moved hvm⟩, trivial, trivial, trivial, trivial, j.moved hvm, k.moved hvm⟩
theorem eH.kept {sT eA : Nat → Nat} {A : Nat → Prop} {U : State} {H H1 : Heap} (h : eH sT eA A U H) (hq : ∀ a : Nat, a < H.size → ¬ A a → H1[a]? = H[a]?) : eH sT eA A U H1 := by
  obtain ⟨⟨a1, a2⟩, ⟨b1, b2⟩, ⟨c1, c2⟩, ⟨d1, d2⟩, -, -, -, -, j, k⟩ := h
  exact ⟨⟨a1.kept hq, a2.kept hq⟩, ⟨b1.kept hq, b2.kept hq⟩, ⟨c1.kept hq, c2.kept hq⟩, ⟨d1.kept hq, d2.kept hq⟩, trivial, trivial, trivial, trivial, j.kept hq, k.kept hq⟩
theorem eH.narrow {sT eA : Nat → Nat} {A B : Nat → Prop} {U : State} {H : Heap} (h : eH sT eA A U H) (hq : ∀ q, B q → A q) : eH sT eA B U H := by
  obtain ⟨⟨a1, a2⟩, ⟨b1, b2⟩, ⟨c1, c2⟩, ⟨d1, d2⟩, -, -, -, -, j, k⟩ := h
  exact ⟨⟨a1.narrow hq, a2.narrow hq⟩, ⟨b1.narrow hq, b2.narrow hq⟩, ⟨c1.narrow hq, c2.narrow hq⟩, ⟨d1.narrow hq, d2.narrow hq⟩, trivial, trivial, trivial, trivial, j.narrow hq, k.narrow hq⟩
/-- what the tables alone say: links of static fields among nest mates, the texts of the exceptions, words of a throw -/
abbrev nEF : List (String × Nat × String × String × String × String) := [(RX2, 33, "ClickBench", "PARTS", "[I", "ClickBench"), (RX2, 50, "ClickBench", "FIRST_SETTINGS", "[I", "ClickBench"), (RX2, 76, "ClickBench", "LEAST_SETTINGS", "[I", "ClickBench"), (RX2, 79, "ClickBench", "GREATEST_SETTINGS", "[I", "ClickBench")]
abbrev xNM : List String := ["java/lang/RuntimeException", "java/lang/Exception"]
def nXW : List Cond := (vx_atS RX11 277 "java/lang/IndexOutOfBoundsException" xNM).filter (fun w => !goodWord w) ++ (vx_atS RX11 284 "java/lang/IllegalArgumentException" xNM).filter (fun w => !goodWord w) ++ (vx_atS RX11 289 "java/lang/IllegalStateException" xNM).filter (fun w => !goodWord w)
def isCas : Cond → Bool
  | .castable _ _ | .declares _ => true
  | _ => false
theorem nXW_cas : nXW.all isCas = true := by decide +kernel
theorem cas_warm {w : Cond} {s U : State} (hW : s.WarmedH U.vm) (h : isCas w = true) (hz : va_Nw w s) : va_Nw w U := by
  cases w <;> first | exact va_Nw.warmC hW hz | exact va_Nw.warmD hW hz | exact absurd (show false = true from h) Bool.false_ne_true
theorem cas_use {w : Cond} {A : Array Value} {U : State} (h : isCas w = true) (hz : va_Nw w U) : w.before A U = true := by
  cases w <;> first | exact va_Nw.use rfl hz | exact absurd (show false = true from h) Bool.false_ne_true
theorem cas_same {w : Cond} {u U : State} (hv : u.vm = U.vm) (h : isCas w = true) (hz : va_Nw w u) : va_Nw w U := by
  cases w <;> first | exact va_Nw.same rfl hv hz | exact absurd (show false = true from h) Bool.false_ne_true
def eV (sT : Nat → Nat) (U : State) : Prop := (∀ q ∈ nEF, va_Nw (.fieldLinkNest q.1 q.2.1 q.2.2.1 q.2.2.2.1 q.2.2.2.2.1 q.2.2.2.2.2) U) ∧ vk_R RX11 275 "there is nothing with this number" (sT 6) U ∧ vk_R RX11 282 "an argument is out of range" (sT 7) U ∧ vk_R RX11 287 "this can't be done now" (sT 8) U ∧ (∀ w ∈ nXW, va_Nw w U)
theorem eV.at {sT : Nat → Nat} {own r n d host : String} {idx : Nat} {U : State} (h : eV sT U) (hm : (own, idx, r, n, d, host) ∈ nEF) : va_Nw (.fieldLinkNest own idx r n d host) U := h.1 _ hm
theorem eV.warm {sT : Nat → Nat} {s U : State} (hW : s.WarmedH U.vm) (h : eV sT s) : eV sT U := ⟨fun q hq => va_Nw.warmF hW (h.1 q hq), h.2.1.warm hW, h.2.2.1.warm hW, h.2.2.2.1.warm hW, fun w hw => cas_warm hW (List.all_eq_true.mp nXW_cas w hw) (h.2.2.2.2 w hw)⟩
theorem eV.call {sT : Nat → Nat} {U : State} {g : JFrame} {mk : MethodId} {a : Array Value} (h : eV sT U) : eV sT (U.calling g mk a) := ⟨fun q hq => va_Nw.same rfl (rfl : U.vm = (U.calling g mk a).vm) (h.1 q hq), h.2.1.same rfl, h.2.2.1.same rfl, h.2.2.2.1.same rfl, fun w hw => cas_same (rfl : U.vm = (U.calling g mk a).vm) (List.all_eq_true.mp nXW_cas w hw) (h.2.2.2.2 w hw)⟩
theorem eV.cas {sT : Nat → Nat} {U : State} {A : Array Value} (h : eV sT U) : ∀ w ∈ nXW, w.before A U = true := fun w hw => cas_use (List.all_eq_true.mp nXW_cas w hw) (h.2.2.2.2 w hw)
def eF (N0 : Nat) (sT eA : Nat → Nat) (U : State) (H : Heap) : Prop := eN U ∧ eV sT U ∧ eH sT eA (aN N0) U H
def fP (N0 : Nat) (sT eA : Nat → Nat) (D : va_G) (tys : List (ClassId × FieldType)) (w : va_W) (av : List Value) : Array Value → State → Prop := va_Pc av (fun U => va_P D vwCl w U.heap ∧ va_K D vwCl tys U ∧ eF N0 sT eA U U.heap)
theorem fP_blind {N0 : Nat} {sT eA : Nat → Nat} {D : va_G} {tys : List (ClassId × FieldType)} {w : va_W} {av : List Value} : FrameBlind (fP N0 sT eA D tys w av) := fun a U g mk h => ⟨h.1, h.2.1, va_K.moved (u := U) (U := U.calling g mk a) (Vm.Alike.refl U.vm) h.2.2.1, h.2.2.2.1.call, h.2.2.2.2.1.call, eH.moved (u := U) (U := U.calling g mk a) (Vm.Alike.refl U.vm) h.2.2.2.2.2⟩
theorem fP_ok {N0 : Nat} {sT eA : Nat → Nat} {D : va_G} {tys : List (ClassId × FieldType)} {w : va_W} {av : List Value} {s : State} {H : Heap} {A : Nat → Prop} {locs : List Loc} (hP : va_P D vwCl w H) (hK : va_K D vwCl tys s) (hF : eF N0 sT eA s s.heap) (hS : va_S A s.heap H locs) (hN : ∀ q, A q → N0 ≤ q) : ∀ U : State, U.heap = H → s.WarmedH U.vm → fP N0 sT eA D tys w av av.toArray U := fun U hU hW =>
  ⟨rfl, by rw [hU]; exact hP, va_K.moved hW.alike hK, hF.1.warm hW, hF.2.1.warm hW, by rw [hU]; exact (hF.2.2.kept (fun a h1 h2 => hS.2.1 a h1 (fun h => h2 (hN a h)))).moved hW.alike⟩
theorem fMet {l : Launch} {y : MethodName} {ws ws' : List Cond} {rm : Room} {cc : ByteArray} {maxL : Nat} {ret : Option FieldType} {N0 : Nat} {sT eA : Nat → Nat} {D : va_G} {tys : List (ClassId × FieldType)} {w0 : va_W} {av : List Value} {Qc : Array Value → State → Outcome → State → Prop} {mc ms : Nat} {free : Addr → Prop} (lv0 : List (Nat × Value))
    (hy : plainName y.cls = true) (hw : ws = Cond.code y cc maxL ret :: ws') (hsl : Nat.ble (lg_sl av).length maxL = true) (hlv : lv_args 0 av = lv0)
    (body : ∀ (p : Program) (e : Env) (s : State) (m : MethodId) (below : List Frame) (meth : Method) (c : Code), Cx p s m meth c cc ret maxL y.cls av.toArray ws → va_K D vwCl tys s → eF N0 sT eA s s.heap → va_P D vwCl w0 s.heap → ∀ ls : Array Slot, lv_has ls maxL lv0 → W p l e rm s m av.toArray below meth c s.heap [] 0 0 (MQ below Qc av.toArray s mc ms free) (F0 m 0 ls [])) : Met l y ws rm (fP N0 sT eA D tys w0 av) Qc mc ms free := by
  refine Met.ofW (cc := cc) (maxL := maxL) (ret := ret) hy hw ?_
  intro p e s m args below meth c s₁ B hml hv
  obtain ⟨rfl, hP, hK, hF⟩ := hv
  rw [lg_entry_eq]
  have hl := lv_entry av (n := maxL) (Nat.le_of_ble_eq_true hsl)
  rw [hlv] at hl
  exact body p e s m below meth c ⟨B.exec, B.bytes, B.returns, hml, findClass_of_methodNamed B.named, atoms_spec (ws := ws) B.pre, B.notSynchronized⟩ hK hF hP _ hl
end FST
