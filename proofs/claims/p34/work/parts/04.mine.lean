/-! MY OWN KIT: pure programs (bd, lt, if), contracts over a world that is a function of a state, calls with the frame -/
section MINE
def bd.{u} {α β : Type} {γ : Sort u} (p : α × β) (k : α → β → γ) : γ := k p.1 p.2
def lt.{u} {α : Type} {γ : Sort u} (v : α) (k : α → γ) : γ := k v
theorem bd_eq {α β γ : Type} {p : α × β} {k : α → β → γ} {F : γ} {r : α} {u : β} (hw : (r, u) = p) (hf : F = bd p k) : F = k r u := by subst hw; exact hf
theorem bd_ok {α β : Type} {p : α × β} {k : α → β → Prop} {r : α} {u : β} (hw : (r, u) = p) (hf : bd p k) : k r u := by subst hw; exact hf
theorem lt_eq {α γ : Type} {v : α} {k : α → γ} {F : γ} {x : α} (e : x = v) (hf : F = lt v k) : F = k x := by subst e; exact hf
theorem lt_ok {α : Type} {v : α} {k : α → Prop} {x : α} (e : x = v) (hf : lt v k) : k x := by subst e; exact hf
theorem it_eq {γ : Type} {c : Prop} [Decidable c] {a b F : γ} (h : c) (hf : F = if c then a else b) : F = a := hf.trans (if_pos h)
theorem ie_eq {γ : Type} {c : Prop} [Decidable c] {a b F : γ} (h : ¬ c) (hf : F = if c then a else b) : F = b := hf.trans (if_neg h)
theorem it_ok {c : Prop} [Decidable c] {a b : Prop} (h : c) (hf : if c then a else b) : a := by rw [if_pos h] at hf; exact hf
theorem ie_ok {c : Prop} [Decidable c] {a b : Prop} (h : ¬ c) (hf : if c then a else b) : b := by rw [if_neg h] at hf; exact hf
/-- a truth value as the machine has it -/
def bz (b : Bool) : Int32 := if b then 1 else 0
theorem bz_narrow (b : Bool) : narrow .boolean (.int (bz b)) = .int (bz b) := by cases b <;> rfl
theorem bz_fits (b : Bool) : fits .boolean (.int (bz b)) = true := by cases b <;> rfl
theorem bz_0 (b : Bool) : bz b = 0 ↔ b = false := by cases b <;> simp [bz]
/-- a number of rounds that no loop needs -/
theorem fu_ex : ∃ n : Nat, 5000 ≤ n := ⟨5000, Nat.le_refl _⟩
noncomputable def fu : Nat := Classical.choose fu_ex
theorem fu_ge : 5000 ≤ fu := Classical.choose_spec fu_ex
def updA (a : Nat → Nat → Int32) (k : Nat) (f : Nat → Int32) : Nat → Nat → Int32 := fun j => if j = k then f else a j
def updJ (a : Nat → Int64) (k : Nat) (x : Int64) : Nat → Int64 := fun j => if j = k then x else a j
/-- addresses apart, and of a kind -/
def gD (A : Nat → Prop) (as : List Nat) : Prop := (∀ (i j a : Nat), as[i]? = some a → as[j]? = some a → i = j) ∧ ∀ a ∈ as, A a
theorem gD_va {A : Nat → Prop} {as : List Nat} {ws : va_W} (h : gD A as) (e : ws.map Prod.fst = as) : va_D A ws := by
  subst e
  refine ⟨fun i j p q hi hj hpq => h.1 i j p.1 ?_ ?_, fun k q hk => h.2 q.1 ?_⟩
  · rw [List.getElem?_map, hi]; rfl
  · rw [List.getElem?_map, hj, hpq]; rfl
  · exact List.mem_map.mpr ⟨q, List.mem_of_getElem? hk, rfl⟩
theorem gD_nd {as : List Nat} {A : Nat → Prop} (h : gD A as) : gD (fun a => a ∈ as) as := ⟨h.1, fun _ h => h⟩
/-- fewer addresses, by their places -/
theorem gD_sub {A : Nat → Prop} {as bs : List Nat} (h : gD A as) (is : List Nat) (hn : va_nd is = true) (hs : is.map (fun i => as[i]?) = bs.map some) : gD (fun a => a ∈ bs) bs := by
  have key : ∀ (k b : Nat), bs[k]? = some b → ∃ i, is[k]? = some i ∧ as[i]? = some b := by
    intro k b hk
    have h1 : (is.map (fun i => as[i]?))[k]? = some (some b) := by rw [hs, List.getElem?_map, hk]; rfl
    rw [List.getElem?_map] at h1
    cases hi : is[k]? with
    | none => rw [hi] at h1; cases h1
    | some i => rw [hi] at h1; exact ⟨i, rfl, Option.some.inj h1⟩
  have hD : va_D (fun _ => True) (as.map fun a => ((a, .inr (0, [])) : Nat × va_E)) := gD_va (as := as) ⟨h.1, fun _ _ => trivial⟩ (by rw [List.map_map]; exact List.map_id _)
  have hD2 := hD.sub is hn (ws' := bs.map fun a => ((a, .inr (0, [])) : Nat × va_E)) (by
    have e1 : is.map (fun i => (as.map fun a => ((a, .inr (0, [])) : Nat × va_E))[i]?) = (is.map (fun i => as[i]?)).map (Option.map fun a => ((a, .inr (0, [])) : Nat × va_E)) := by
      rw [List.map_map]; apply List.map_congr_left; intro i _; simp [List.getElem?_map]
    rw [e1, hs, List.map_map, List.map_map]; apply List.map_congr_left; intro i _; rfl)
  refine ⟨fun i j a hi hj => hD2.1 i j _ _ (by rw [List.getElem?_map, hi]; rfl) (by rw [List.getElem?_map, hj]; rfl) rfl, fun _ h => h⟩
/-- the cells of a world, as a kind of address -/
def wA (ws : va_W) : Nat → Prop := fun a => ∃ (k : Nat) (e : va_E), ws[k]? = some (a, e)
theorem gD_wA {A : Nat → Prop} {ws : va_W} (h : gD A (ws.map Prod.fst)) : gD (wA ws) (ws.map Prod.fst) := ⟨h.1, fun a ha => by
  obtain ⟨q, hq, rfl⟩ := List.mem_map.mp ha
  obtain ⟨k, hk⟩ := List.getElem?_of_mem hq
  exact ⟨k, q.2, hk⟩⟩
/-- a contract's start: these arguments, this world -/
def gP (D : va_G) (tys : List (ClassId × FieldType)) (w : va_W) (av : List Value) : Array Value → State → Prop := va_Pc av (fun U => va_P D vwCl w U.heap ∧ va_K D vwCl tys U)
theorem gP_blind {D : va_G} {tys : List (ClassId × FieldType)} {w : va_W} {av : List Value} : FrameBlind (gP D tys w av) := fun a U g mk h => ⟨h.1, h.2.1, va_K.moved (u := U) (U := U.calling g mk a) (Vm.Alike.refl U.vm) h.2.2⟩
theorem gP_ok {D : va_G} {tys : List (ClassId × FieldType)} {w : va_W} {av : List Value} {s : State} {H : Heap} (hP : va_P D vwCl w H) (hK : va_K D vwCl tys s) : ∀ U : State, U.heap = H → s.WarmedH U.vm → gP D tys w av av.toArray U := fun U hU hW => ⟨rfl, by rw [hU]; exact hP, va_K.moved hW.alike hK⟩
/-- ends: an int, a long, nothing; the world of the new state -/
abbrev gQi {σ : Type} (D : va_G) (Wd : σ → va_W) (A : Nat → Prop) (f : Int32 × σ) : Array Value → State → Outcome → State → Prop := va_Qi (fun (r : Int32) (u : σ) => (r, u) = f) (fun u t => va_P D vwCl (Wd u) t.heap) A
abbrev gQl {σ : Type} (D : va_G) (Wd : σ → va_W) (A : Nat → Prop) (f : Int64 × σ) : Array Value → State → Outcome → State → Prop := va_Ql (fun (r : Int64) (u : σ) => (r, u) = f) (fun u t => va_P D vwCl (Wd u) t.heap) A
abbrev gQd {σ : Type} (D : va_G) (Wd : σ → va_W) (A : Nat → Prop) (f : UInt64 × σ) : Array Value → State → Outcome → State → Prop := va_Qd (fun (r : UInt64) (u : σ) => (r, u) = f) (fun u t => va_P D vwCl (Wd u) t.heap) A
abbrev gQv {σ : Type} (D : va_G) (Wd : σ → va_W) (A : Nat → Prop) (f : σ) : Array Value → State → Outcome → State → Prop := va_Qv (fun (u : σ) => u = f) (fun u t => va_P D vwCl (Wd u) t.heap) A
/-- ends of methods that only read -/
abbrev gRi (f : Int32) : Array Value → State → Outcome → State → Prop := vp_Si (fun r => r = f)
abbrev gRl (f : Int64) : Array Value → State → Outcome → State → Prop := vp_Sl (fun r => r = f)
/-- what stays as it is on a walk -/
def Cx (p : Program) (s : State) (m : MethodId) (meth : Method) (c : Code) (cc : ByteArray) (ret : Option FieldType) (nL : Nat) (own : String) (args : Array Value) (Ts : List Cond) : Prop :=
  p.tables.exec = Jvm.exec ∧ c.code = cc ∧ meth.sig.returnType = ret ∧ c.maxLocals = nL ∧ s.vm.findClass own = some m.cls ∧ (∀ w ∈ Ts, w.before args s = true) ∧ meth.locks = false
theorem gMet {l : Launch} {y : MethodName} {ws ws' : List Cond} {rm : Room} {cc : ByteArray} {maxL : Nat} {ret : Option FieldType} {D : va_G} {tys : List (ClassId × FieldType)} {w0 : va_W} {av : List Value} {Qc : Array Value → State → Outcome → State → Prop} {mc ms : Nat} {free : Addr → Prop} (lv0 : List (Nat × Value))
    (hy : plainName y.cls = true) (hw : ws = Cond.code y cc maxL ret :: ws') (hsl : Nat.ble (lg_sl av).length maxL = true) (hlv : lv_args 0 av = lv0)
    (body : ∀ (p : Program) (e : Env) (s : State) (m : MethodId) (below : List Frame) (meth : Method) (c : Code), Cx p s m meth c cc ret maxL y.cls av.toArray ws → va_K D vwCl tys s → va_P D vwCl w0 s.heap → ∀ ls : Array Slot, lv_has ls maxL lv0 → W p l e rm s m av.toArray below meth c s.heap [] 0 0 (MQ below Qc av.toArray s mc ms free) (F0 m 0 ls [])) : Met l y ws rm (gP D tys w0 av) Qc mc ms free := by
  refine Met.ofW (cc := cc) (maxL := maxL) (ret := ret) hy hw ?_
  intro p e s m args below meth c s₁ B hml hv
  obtain ⟨rfl, hP, hK⟩ := hv
  rw [lg_entry_eq]
  have hl := lv_entry av (n := maxL) (Nat.le_of_ble_eq_true hsl)
  rw [hlv] at hl
  exact body p e s m below meth c ⟨B.exec, B.bytes, B.returns, hml, findClass_of_methodNamed B.named, atoms_spec (ws := ws) B.pre, B.notSynchronized⟩ hK hP _ hl
/-- a world with some of its cells anew -/
def gpatch : va_W → List Nat → va_W → va_W
  | ws, i :: is, e :: es => gpatch (ws.set i e) is es
  | ws, [], _ => ws
  | ws, _ :: _, [] => ws
theorem gpatch_in : ∀ (is : List Nat) (es ws : va_W) (k : Nat) (q : Nat × va_E), is.length = es.length → (gpatch ws is es)[k]? = some q → (∃ j : Nat, es[j]? = some q) ∨ (k ∉ is ∧ ws[k]? = some q) := by
  intro is
  induction is with
  | nil => intro es ws k q _ h; exact Or.inr ⟨List.not_mem_nil, by simpa [gpatch] using h⟩
  | cons i is ih =>
    intro es ws k q hl h
    cases es with
    | nil => cases hl
    | cons e es =>
      have hl2 : is.length = es.length := by simpa using hl
      rcases ih es (ws.set i e) k q hl2 (by simpa [gpatch] using h) with ⟨j, hj⟩ | ⟨hk, hq⟩
      · exact Or.inl ⟨j + 1, by simpa using hj⟩
      · by_cases hki : k = i
        · subst hki
          rw [List.getElem?_set] at hq
          simp only [if_true] at hq
          by_cases hkl : k < ws.length
          · rw [if_pos hkl] at hq
            exact Or.inl ⟨0, by simpa using hq⟩
          · rw [if_neg hkl] at hq; cases hq
        · rw [List.getElem?_set_ne (Ne.symm hki)] at hq
          refine Or.inr ⟨?_, hq⟩
          intro h; rcases List.mem_cons.mp h with h | h
          · exact hki h
          · exact hk h
theorem g_patch {D : va_G} {cl : List vw_C} {ws wc w1 : va_W} {H H1 : Heap} {A : Nat → Prop} (hP : va_P D cl ws H) (hD : va_D A ws) (isC : List Nat) (hC : isC.map (fun i => ws[i]?) = wc.map some) (h1 : va_P D cl w1 H1) (hlen : wc.length = w1.length)
    (hk : ∀ q : Nat, q < H.size → ¬ wA wc q → H1[q]? = H[q]?) : va_P D cl (gpatch ws isC w1) H1 := by
  have hl : isC.length = w1.length := by rw [← hlen]; have := congrArg List.length hC; simpa using this
  intro k q hq
  rcases gpatch_in isC w1 ws k q hl hq with ⟨j, hj⟩ | ⟨hki, hw⟩
  · exact h1 j q hj
  · have hat := hP k q hw
    refine hat.kept (hk q.1 hat.lt ?_)
    rintro ⟨j, e, hj⟩
    have h2 : (isC.map (fun i => ws[i]?))[j]? = some (some (q.1, e)) := by rw [hC, List.getElem?_map, hj]; rfl
    rw [List.getElem?_map] at h2
    cases hi : isC[j]? with
    | none => rw [hi] at h2; cases h2
    | some i =>
      rw [hi] at h2
      have h3 : ws[i]? = some (q.1, e) := Option.some.inj h2
      have : k = i := hD.1 k i q (q.1, e) hw h3 rfl
      exact hki (this ▸ List.mem_of_getElem? hi)
theorem wA_in {A : Nat → Prop} {ws wc : va_W} (hD : va_D A ws) (isC : List Nat) (hC : isC.map (fun i => ws[i]?) = wc.map some) : ∀ q, wA wc q → A q := by
  rintro q ⟨k, e, h⟩
  have h1 : (isC.map (fun i => ws[i]?))[k]? = some (some (q, e)) := by rw [hC, List.getElem?_map, h]; rfl
  rw [List.getElem?_map] at h1
  cases hi : isC[k]? with
  | none => rw [hi] at h1; cases h1
  | some i => rw [hi] at h1; exact hD.2 i (q, e) (Option.some.inj h1)
section CALLS
variable {p : Program} {l : Launch} {e : Env} {R : Room} {s : State} {m : MethodId} {args : Array Value} {below : List Frame} {meth : Method} {c : Code} {H : Heap} {locs : List Loc} {cells slots : Nat} {Q : State → Prop}
variable {pc : Nat} {ls : Array Slot} {rest st0 : List Value} {a : Array Value} {A0 : Nat → Prop} {H0 : Heap} {D : va_G} {ws wc : va_W}
/-- a call that only reads -/
theorem gro_i {f : Int32} (hr : va_Run p l e R s m args below meth c H locs cells slots 0 0 (F0 m pc ls st0) rest (gRi f a) (fun _ => False))
    (kk : W p l e R s m args below meth c H locs cells slots Q (F0 m (pc + 3) ls (.int f :: rest))) : W p l e R s m args below meth c H locs cells slots Q (F0 m pc ls st0) := vp_callSi hr.run (fun r h => by subst h; exact kk)
theorem gro_l {f : Int64} (hr : va_Run p l e R s m args below meth c H locs cells slots 0 0 (F0 m pc ls st0) rest (gRl f a) (fun _ => False))
    (kk : W p l e R s m args below meth c H locs cells slots Q (F0 m (pc + 3) ls (.long f :: rest))) : W p l e R s m args below meth c H locs cells slots Q (F0 m pc ls st0) := vp_callSl hr.run (fun r h => by subst h; exact kk)
/-- a call that changes its world, which lies in the caller's at the places isC -/
theorem gmu_i {σ : Type} {Wd : σ → va_W} {f : Int32 × σ} (hr : va_Run p l e R s m args below meth c H locs cells slots 0 0 (F0 m pc ls st0) rest (gQi D Wd (wA wc) f a) (wA wc)) (hP : va_P D vwCl ws H) (hD : va_D A0 ws) (hS : va_S A0 H0 H locs) (isC : List Nat) (hC : isC.map (fun i => ws[i]?) = wc.map some) (hlen : ∀ u, wc.length = (Wd u).length)
    (kk : ∀ (r : Int32) (u : σ) (H1 : Heap) (locs1 : List Loc), (r, u) = f → va_P D vwCl (gpatch ws isC (Wd u)) H1 → va_S A0 H0 H1 locs1 → W p l e R s m args below meth c H1 locs1 cells slots Q (F0 m (pc + 3) ls (.int r :: rest))) : W p l e R s m args below meth c H locs cells slots Q (F0 m pc ls st0) :=
  va_calli hr hS (fun q _ h => wA_in hD isC hC q h) (wA_in hD isC hC) (fun r u t H1 locs1 ht _ hw hB _ hk hS1 => kk r u H1 locs1 hw (g_patch hP hD isC hC (ht ▸ hB) (hlen u) hk) hS1)
theorem gmu_l {σ : Type} {Wd : σ → va_W} {f : Int64 × σ} (hr : va_Run p l e R s m args below meth c H locs cells slots 0 0 (F0 m pc ls st0) rest (gQl D Wd (wA wc) f a) (wA wc)) (hP : va_P D vwCl ws H) (hD : va_D A0 ws) (hS : va_S A0 H0 H locs) (isC : List Nat) (hC : isC.map (fun i => ws[i]?) = wc.map some) (hlen : ∀ u, wc.length = (Wd u).length)
    (kk : ∀ (r : Int64) (u : σ) (H1 : Heap) (locs1 : List Loc), (r, u) = f → va_P D vwCl (gpatch ws isC (Wd u)) H1 → va_S A0 H0 H1 locs1 → W p l e R s m args below meth c H1 locs1 cells slots Q (F0 m (pc + 3) ls (.long r :: rest))) : W p l e R s m args below meth c H locs cells slots Q (F0 m pc ls st0) :=
  va_calll hr hS (fun q _ h => wA_in hD isC hC q h) (wA_in hD isC hC) (fun r u t H1 locs1 ht _ hw hB _ hk hS1 => kk r u H1 locs1 hw (g_patch hP hD isC hC (ht ▸ hB) (hlen u) hk) hS1)
theorem gmu_d {σ : Type} {Wd : σ → va_W} {f : UInt64 × σ} (hr : va_Run p l e R s m args below meth c H locs cells slots 0 0 (F0 m pc ls st0) rest (gQd D Wd (wA wc) f a) (wA wc)) (hP : va_P D vwCl ws H) (hD : va_D A0 ws) (hS : va_S A0 H0 H locs) (isC : List Nat) (hC : isC.map (fun i => ws[i]?) = wc.map some) (hlen : ∀ u, wc.length = (Wd u).length)
    (kk : ∀ (r : UInt64) (u : σ) (H1 : Heap) (locs1 : List Loc), (r, u) = f → va_P D vwCl (gpatch ws isC (Wd u)) H1 → va_S A0 H0 H1 locs1 → W p l e R s m args below meth c H1 locs1 cells slots Q (F0 m (pc + 3) ls (.double r :: rest))) : W p l e R s m args below meth c H locs cells slots Q (F0 m pc ls st0) :=
  va_calld hr hS (fun q _ h => wA_in hD isC hC q h) (wA_in hD isC hC) (fun r u t H1 locs1 ht _ hw hB _ hk hS1 => kk r u H1 locs1 hw (g_patch hP hD isC hC (ht ▸ hB) (hlen u) hk) hS1)
theorem gmu_v {σ : Type} {Wd : σ → va_W} {f : σ} (hr : va_Run p l e R s m args below meth c H locs cells slots 0 0 (F0 m pc ls st0) rest (gQv D Wd (wA wc) f a) (wA wc)) (hP : va_P D vwCl ws H) (hD : va_D A0 ws) (hS : va_S A0 H0 H locs) (isC : List Nat) (hC : isC.map (fun i => ws[i]?) = wc.map some) (hlen : ∀ u, wc.length = (Wd u).length)
    (kk : ∀ (u : σ) (H1 : Heap) (locs1 : List Loc), u = f → va_P D vwCl (gpatch ws isC (Wd u)) H1 → va_S A0 H0 H1 locs1 → W p l e R s m args below meth c H1 locs1 cells slots Q (F0 m (pc + 3) ls rest)) : W p l e R s m args below meth c H locs cells slots Q (F0 m pc ls st0) :=
  va_callv hr hS (fun q _ h => wA_in hD isC hC q h) (wA_in hD isC hC) (fun u t H1 locs1 ht _ hw hB _ hk hS1 => kk u H1 locs1 hw (g_patch hP hD isC hC (ht ▸ hB) (hlen u) hk) hS1)
end CALLS
end MINE
