/-! CONSTANTS OF THE ENUM AND NULL: a code is none or a constant's place; the reader's state; rows -/
section EROWS
abbrev RS : Type := (Nat → Int32) × (Nat → Int32) × (Nat → Option Nat) × Option Nat
def dsi (m : RS) (k : Nat) (x : Int32) : RS := (upd m.1 k x, m.2)
def dsn (m : RS) (f : Nat → Int32) : RS := (m.1, f, m.2.2)
def dsc (m : RS) (g : Nat → Option Nat) : RS := (m.1, m.2.1, g, m.2.2.2)
def dse (m : RS) (r : Option Nat) : RS := (m.1, m.2.1, m.2.2.1, r)
def updO (c : Nat → Option Nat) (k : Nat) (r : Option Nat) : Nat → Option Nat := fun j => if j = k then r else c j
def isE (r : Option Nat) : Prop := ∃ i : Nat, i < 7 ∧ r = some i
def enN (r : Option Nat) : Int32 := ([2, 2, 3, 4, 2, 3, 3] : List Int32).getD (r.getD 0) 0
def enO (r : Option Nat) : Int32 := ([0, 1, 2, 3, 4, 5, 6] : List Int32).getD (r.getD 0) 0
abbrev dAd (q : Nat → Nat) : List Nat := [q 0, q 1, q 2]
abbrev dw (q : Nat → Nat) (cI cO : ClassId) (eA : Nat → Nat) (m : RS) : va_W := [(q 0, .inr (2, [.ref (q 1), .ref (q 2), .int (m.1 0), .int (m.1 1), .int (m.1 2), va_re eA m.2.2.2, .int (m.1 3), .int (m.1 4)])), (q 1, .inl (cO, 18, .inr (.inr (.inr (.inr (fun k => (m.2.2.1 k).map eA)))))), (q 2, .inl (cI, 72, .inl m.2.1))]
variable {p : Program} {l : Launch} {e : Env} {R : Room} {s : State} {m : MethodId} {args : Array Value} {below : List Frame} {meth : Method} {c : Code} {H : Heap} {locs : List Loc} {cells slots : Nat} {Q : State → Prop}
variable {pc : Nat} {ls : Array Slot} {rest st0 : List Value} {a : Array Value} {A A0 : Nat → Prop} {H0 : Heap} {D : va_G} {ws wc : va_W} {cc : ByteArray} {nL : Nat} {own : String} {Ts : List Cond} {ad : Nat → Nat}
theorem re_narrow (ad : Nat → Nat) (r : Option Nat) {C : String} : narrow (.object C) (va_re ad r) = va_re ad r := by cases r <;> rfl
theorem re_fits (ad : Nat → Nat) (r : Option Nat) {C : String} : fits (.object C) (va_re ad r) = true := by cases r <;> rfl
theorem lv_topE {r : Option Nat} (k : ∀ x : Option Nat, x = r → W p l e R s m args below meth c H locs cells slots Q (F0 m pc ls (va_re ad x :: rest))) : W p l e R s m args below meth c H locs cells slots Q (F0 m pc ls (va_re ad r :: rest)) := k r rfl
theorem lv_aload_nE {r : Option Nat} (hexec : p.tables.exec = Jvm.exec) (hb : c.code = cc) {k : Fin 4} {i : Nat} (hdg : decode cc pc = .ok (.aload_n k, 1)) (hi : (k : Nat) = i) (hl : ls[i]? = some (.val (va_re ad r))) (kk : W p l e R s m args below meth c H locs cells slots Q (F0 m (pc + 1) ls (va_re ad r :: rest))) : W p l e R s m args below meth c H locs cells slots Q (F0 m pc ls rest) := by
  cases r with
  | none => exact lv_aload_nN hexec hb hdg hi hl kk
  | some x => exact lv_aload_n hexec hb hdg hi hl kk
theorem lv_aloadE {r : Option Nat} (hexec : p.tables.exec = Jvm.exec) (hb : c.code = cc) {i : Nat} (hdg : decode cc pc = .ok (.aload i, 2)) (hl : ls[i]? = some (.val (va_re ad r))) (kk : W p l e R s m args below meth c H locs cells slots Q (F0 m (pc + 2) ls (va_re ad r :: rest))) : W p l e R s m args below meth c H locs cells slots Q (F0 m pc ls rest) := by
  cases r with
  | none => exact lv_aloadN hexec hb hdg hl kk
  | some x => exact lv_aload hexec hb hdg hl kk
theorem lv_astore_nE {r : Option Nat} (hexec : p.tables.exec = Jvm.exec) (hb : c.code = cc) {k : Fin 4} {i nL : Nat} {lv lv' : List (Nat × Value)} (hdg : decode cc pc = .ok (.astore_n k, 1)) (hi : (k : Nat) = i) (h : lv_has ls nL lv) (hn : i < nL) (hl : (i, va_re ad r) :: lv.filter (fun q => !(q.1 == i) && !(q.1 + 1 == i && q.2.category == 2)) = lv')
    (kk : ∀ ls' : Array Slot, lv_has ls' nL lv' → W p l e R s m args below meth c H locs cells slots Q (F0 m (pc + 1) ls' rest)) : W p l e R s m args below meth c H locs cells slots Q (F0 m pc ls (va_re ad r :: rest)) := by
  cases r with
  | none => exact lv_astore_nN hexec hb hdg hi h hn hl kk
  | some x => exact lv_astore_n hexec hb hdg hi h hn hl kk
theorem lv_astoreE {r : Option Nat} (hexec : p.tables.exec = Jvm.exec) (hb : c.code = cc) {i nL : Nat} {lv lv' : List (Nat × Value)} (hdg : decode cc pc = .ok (.astore i, 2)) (h : lv_has ls nL lv) (hn : i < nL) (hl : (i, va_re ad r) :: lv.filter (fun q => !(q.1 == i) && !(q.1 + 1 == i && q.2.category == 2)) = lv')
    (kk : ∀ ls' : Array Slot, lv_has ls' nL lv' → W p l e R s m args below meth c H locs cells slots Q (F0 m (pc + 2) ls' rest)) : W p l e R s m args below meth c H locs cells slots Q (F0 m pc ls (va_re ad r :: rest)) := by
  cases r with
  | none => exact lv_astoreN hexec hb hdg h hn hl kk
  | some x => exact lv_astore hexec hb hdg h hn hl kk
theorem lv_ifnullE {r : Option Nat} (hexec : p.tables.exec = Jvm.exec) (hb : c.code = cc) {off : Int} {tgt : Nat} (hdg : decode cc pc = .ok (.ifnull off, 3)) (ht : (pc : Int) + off = (tgt : Int)) (k1 : r = none → W p l e R s m args below meth c H locs cells slots Q (F0 m tgt ls rest)) (k2 : ¬ r = none → W p l e R s m args below meth c H locs cells slots Q (F0 m (pc + 3) ls rest)) : W p l e R s m args below meth c H locs cells slots Q (F0 m pc ls (va_re ad r :: rest)) := by
  cases r with
  | none => exact lv_ifnullN hexec hb hdg ht (k1 rfl)
  | some x => exact lv_ifnull hexec hb hdg (k2 (fun h => by cases h))
theorem lv_ifnonnullE {r : Option Nat} (hexec : p.tables.exec = Jvm.exec) (hb : c.code = cc) {off : Int} {tgt : Nat} (hdg : decode cc pc = .ok (.ifnonnull off, 3)) (ht : (pc : Int) + off = (tgt : Int)) (k1 : ¬ r = none → W p l e R s m args below meth c H locs cells slots Q (F0 m tgt ls rest)) (k2 : r = none → W p l e R s m args below meth c H locs cells slots Q (F0 m (pc + 3) ls rest)) : W p l e R s m args below meth c H locs cells slots Q (F0 m pc ls (va_re ad r :: rest)) := by
  cases r with
  | none => exact lv_ifnonnullN hexec hb hdg (k2 rfl)
  | some x => exact lv_ifnonnull hexec hb hdg ht (k1 (fun h => by cases h))
/-- the end of a method that only reads, with a constant or null -/
abbrev gRe (ad : Nat → Nat) (f : Option Nat) : Array Value → State → Outcome → State → Prop := va_Se ad (fun r => r = f)
theorem e_re {C : String} (C0 : Cx p s m meth c cc (some (.object C)) nL own args Ts) {r f : Option Nat} (h : r = f) (hdg : decode cc pc = .ok (.areturn, 1)) : W p l e R s m args below meth c s.heap [] 0 0 (MQ below (gRe ad f) args s 0 0 (fun _ => False)) (F0 m pc ls [va_re ad r]) := by
  obtain ⟨hx, hb, hr, hml, hown, hts, hlocks⟩ := C0
  exact W.aret hx hb hr (Or.inl ⟨_, rfl⟩) (va_re_or ad r) (fun t ht hW => ⟨r, rfl, h, ht⟩) (fun q h => absurd h List.not_mem_nil) hdg hlocks
theorem e_rn {ty : FieldType} (C0 : Cx p s m meth c cc (some ty) nL own args Ts) {v f : Int32} (h : v = f) (hn : narrow ty (.int v) = .int v) (hdg : decode cc pc = .ok (.ireturn, 1)) : W p l e R s m args below meth c s.heap [] 0 0 (MQ below (gRi f) args s 0 0 (fun _ => False)) (F0 m pc ls [.int v]) := by
  obtain ⟨hx, hb, hr, hml, hown, hts, hlocks⟩ := C0
  exact W.zret hx hb hr hn (fun t ht hW => ⟨v, rfl, h, ht⟩) (fun q h => absurd h List.not_mem_nil) hdg hlocks
theorem gro_e {f : Option Nat} (hr : va_Run p l e R s m args below meth c H locs cells slots 0 0 (F0 m pc ls st0) rest (gRe ad f a) (fun _ => False))
    (kk : W p l e R s m args below meth c H locs cells slots Q (F0 m (pc + 3) ls (va_re ad f :: rest))) : W p l e R s m args below meth c H locs cells slots Q (F0 m pc ls st0) := va_cse hr.run (fun r h => by subst h; exact kk)
theorem g_numE {eA : Nat → Nat} {r : Option Nat} {index : Nat} (hexec : p.tables.exec = Jvm.exec) (hb : c.code = cc) (hE : va_En "ClickBench$Command" "LClickBench$Command;" cmN cmF eA A s s.heap) (hS : va_S A s.heap H locs) (hown : s.vm.findClass own = some m.cls) (hlink : (Cond.fieldLink own index "ClickBench$Command" "numbers" "I").before args s = true) (hr : isE r) (hdg : decode cc pc = .ok (.getfield index, 3))
    (kk : W p l e R s m args below meth c H locs cells slots Q (F0 m (pc + 3) ls (.int (enN r) :: rest))) : W p l e R s m args below meth c H locs cells slots Q (F0 m pc ls (va_re eA r :: rest)) := by
  obtain ⟨i, hi, rfl⟩ := hr
  exact va_getE hexec hb hE (i := i) hi hS hown (q := ("ClickBench$Command", "numbers", "I", [2, 2, 3, 4, 2, 3, 3])) (List.mem_cons_of_mem _ List.mem_cons_self) hlink (fun _ h => h) hdg kk
theorem g_anyE {eA : Nat → Nat} (hE : va_En "ClickBench$Command" "LClickBench$Command;" cmN cmF eA A s s.heap) (hS : va_S A s.heap H locs) {i : Nat} (hi : i < 7) : va_Any "ClickBench$Command" s H (eA i) := by
  obtain ⟨cell, h1, h2, h3⟩ := va_recvE hE (i := i) hi hS
  obtain ⟨kC, hk, -⟩ := Vm.findClass_spec h3
  refine ⟨cell, h1, h2, ⟨kC, hk⟩, fun comp hc => ?_⟩
  rw [h3] at hc
  cases hc
  exact va_asg _ _
theorem g_astE {tys : List (ClassId × FieldType)} {eA : Nat → Nat} {r : Option Nat} (hexec : p.tables.exec = Jvm.exec) (hb : c.code = cc) (hK : va_K D vwCl tys s) (hP : va_P D vwCl ws H) (hD : va_D A ws) (hS : va_S A s.heap H locs) (hE : va_En "ClickBench$Command" "LClickBench$Command;" cmN cmF eA A s s.heap) (hr : isE r) (q0 t0 : Nat) {cA : ClassId} {b n : Nat} {f : Nat → Option Nat} (ha : ws[q0]? = some (b, .inl (cA, n, .inr (.inr (.inr (.inr (fun k => (f k).map eA))))))) (ht : tys[t0]? = some (cA, .object "ClickBench$Command")) {i : Int32} (hin : vp_in i n) (hdg : decode cc pc = .ok (.aastore, 1))
    (kk : ∀ (H1 : Heap) (locs1 : List Loc), va_P D vwCl (ws.set q0 (b, .inl (cA, n, .inr (.inr (.inr (.inr (fun k => (updO f i.toNatClampNeg r k).map eA))))))) H1 → va_S A s.heap H1 locs1 → W p l e R s m args below meth c H1 locs1 cells slots Q (F0 m (pc + 1) ls rest)) : W p l e R s m args below meth c H locs cells slots Q (F0 m pc ls (va_re eA r :: .int i :: .ref b :: rest)) := by
  obtain ⟨j, hj, rfl⟩ := hr
  refine va_astqM hexec hb hK hP hD hS q0 t0 ha ht (g_anyE hE hS hj) hin hdg (fun H1 locs1 hP1 _ hS1 => kk H1 locs1 ?_ hS1)
  have e : va_up (fun k => (f k).map eA) i.toNatClampNeg (some (eA j)) = (fun k => (updO f i.toNatClampNeg (some j) k).map eA) := by
    funext k
    unfold va_up updO
    split <;> rfl
  rw [← e]
  exact hP1
theorem g_ordE {eA : Nat → Nat} {r : Option Nat} {ar : Nat → Array Value} (hr : isE r) (run : ∀ i : Nat, i < 7 → va_Run p l e R s m args below meth c H locs cells slots 0 0 (F0 m pc ls (.ref (eA i) :: rest)) rest (gRi (enO (some i)) (ar i)) (fun _ => False))
    (kk : W p l e R s m args below meth c H locs cells slots Q (F0 m (pc + 3) ls (.int (enO r) :: rest))) : W p l e R s m args below meth c H locs cells slots Q (F0 m pc ls (va_re eA r :: rest)) := by
  obtain ⟨i, hi, rfl⟩ := hr
  exact gro_i (run i hi) kk
end EROWS
