/-! ROWS OF MY OWN: ends of methods, calls in the same world, arrays at a known place, truth values -/
section ROWS
abbrev tYS (cI cB cO _cL : ClassId) : List (ClassId × FieldType) := [(cI, .int), (cB, .object "ClickBench$Bench"), (cO, .object "ClickBench$Command")]
theorem bz_t {b : Bool} (h : ¬ bz b = 0) : b = true := by cases b <;> simp_all [bz]
theorem bz_f {b : Bool} (h : bz b = 0) : ¬ b = true := by cases b <;> simp_all [bz]
theorem i32_ne {x v : Int32} {n : Int} (hv : v.toInt = n) (h : ¬ x = v) : x.toInt ≠ n := fun e => h (Int32.toInt_inj.mp (e.trans hv.symm))
theorem gD_any {A : Nat → Prop} {as : List Nat} (h : gD A as) : gD (fun _ => True) as := ⟨h.1, fun _ _ => trivial⟩
theorem va_P_nil {D : va_G} {cl : List vw_C} {H : Heap} : va_P D cl [] H := fun k q h => by simp at h
abbrev gRz (f : Bool) : Array Value → State → Outcome → State → Prop := gRi (bz f)
abbrev gRv : Array Value → State → Outcome → State → Prop := va_Sv (fun _ => True)
abbrev gQz {σ : Type} (D : va_G) (Wd : σ → va_W) (A : Nat → Prop) (f : Bool × σ) : Array Value → State → Outcome → State → Prop := va_Qi (fun (r : Int32) (u : σ) => ∃ b : Bool, r = bz b ∧ (b, u) = f) (fun u t => va_P D vwCl (Wd u) t.heap) A
variable {p : Program} {l : Launch} {e : Env} {R : Room} {s : State} {m : MethodId} {args : Array Value} {below : List Frame} {meth : Method} {c : Code} {H : Heap} {locs : List Loc} {cells slots : Nat} {Q : State → Prop}
variable {pc : Nat} {ls : Array Slot} {rest st0 : List Value} {a : Array Value} {A A0 : Nat → Prop} {H0 : Heap} {D : va_G} {ws wc : va_W} {cc : ByteArray} {nL : Nat} {own : String} {Ts : List Cond}
theorem wA_D (hD : va_D A ws) : ∀ q, wA ws q → A q := fun q ⟨k, e, h⟩ => hD.2 k (q, e) h
theorem gms_i {σ : Type} {Wd : σ → va_W} {f : Int32 × σ} (hr : va_Run p l e R s m args below meth c H locs cells slots 0 0 (F0 m pc ls st0) rest (gQi D Wd (wA ws) f a) (wA ws)) (hP : va_P D vwCl ws H) (hD : va_D A0 ws) (hS : va_S A0 H0 H locs)
    (kk : ∀ (r : Int32) (u : σ) (H1 : Heap) (locs1 : List Loc), (r, u) = f → va_P D vwCl (Wd u) H1 → va_S A0 H0 H1 locs1 → W p l e R s m args below meth c H1 locs1 cells slots Q (F0 m (pc + 3) ls (.int r :: rest))) : W p l e R s m args below meth c H locs cells slots Q (F0 m pc ls st0) :=
  va_calli hr hS (fun q _ h => wA_D hD q h) (wA_D hD) (fun r u t H1 locs1 ht _ hw hB _ hk hS1 => kk r u H1 locs1 hw (ht ▸ hB) hS1)
theorem gms_l {σ : Type} {Wd : σ → va_W} {f : Int64 × σ} (hr : va_Run p l e R s m args below meth c H locs cells slots 0 0 (F0 m pc ls st0) rest (gQl D Wd (wA ws) f a) (wA ws)) (hP : va_P D vwCl ws H) (hD : va_D A0 ws) (hS : va_S A0 H0 H locs)
    (kk : ∀ (r : Int64) (u : σ) (H1 : Heap) (locs1 : List Loc), (r, u) = f → va_P D vwCl (Wd u) H1 → va_S A0 H0 H1 locs1 → W p l e R s m args below meth c H1 locs1 cells slots Q (F0 m (pc + 3) ls (.long r :: rest))) : W p l e R s m args below meth c H locs cells slots Q (F0 m pc ls st0) :=
  va_calll hr hS (fun q _ h => wA_D hD q h) (wA_D hD) (fun r u t H1 locs1 ht _ hw hB _ hk hS1 => kk r u H1 locs1 hw (ht ▸ hB) hS1)
theorem gms_d {σ : Type} {Wd : σ → va_W} {f : UInt64 × σ} (hr : va_Run p l e R s m args below meth c H locs cells slots 0 0 (F0 m pc ls st0) rest (gQd D Wd (wA ws) f a) (wA ws)) (hP : va_P D vwCl ws H) (hD : va_D A0 ws) (hS : va_S A0 H0 H locs)
    (kk : ∀ (r : UInt64) (u : σ) (H1 : Heap) (locs1 : List Loc), (r, u) = f → va_P D vwCl (Wd u) H1 → va_S A0 H0 H1 locs1 → W p l e R s m args below meth c H1 locs1 cells slots Q (F0 m (pc + 3) ls (.double r :: rest))) : W p l e R s m args below meth c H locs cells slots Q (F0 m pc ls st0) :=
  va_calld hr hS (fun q _ h => wA_D hD q h) (wA_D hD) (fun r u t H1 locs1 ht _ hw hB _ hk hS1 => kk r u H1 locs1 hw (ht ▸ hB) hS1)
theorem gms_v {σ : Type} {Wd : σ → va_W} {f : σ} (hr : va_Run p l e R s m args below meth c H locs cells slots 0 0 (F0 m pc ls st0) rest (gQv D Wd (wA ws) f a) (wA ws)) (hP : va_P D vwCl ws H) (hD : va_D A0 ws) (hS : va_S A0 H0 H locs)
    (kk : ∀ (u : σ) (H1 : Heap) (locs1 : List Loc), u = f → va_P D vwCl (Wd u) H1 → va_S A0 H0 H1 locs1 → W p l e R s m args below meth c H1 locs1 cells slots Q (F0 m (pc + 3) ls rest)) : W p l e R s m args below meth c H locs cells slots Q (F0 m pc ls st0) :=
  va_callv hr hS (fun q _ h => wA_D hD q h) (wA_D hD) (fun u t H1 locs1 ht _ hw hB _ hk hS1 => kk u H1 locs1 hw (ht ▸ hB) hS1)
theorem gms_z {σ : Type} {Wd : σ → va_W} {f : Bool × σ} (hr : va_Run p l e R s m args below meth c H locs cells slots 0 0 (F0 m pc ls st0) rest (gQz D Wd (wA ws) f a) (wA ws)) (hP : va_P D vwCl ws H) (hD : va_D A0 ws) (hS : va_S A0 H0 H locs)
    (kk : ∀ (b : Bool) (u : σ) (H1 : Heap) (locs1 : List Loc), (b, u) = f → va_P D vwCl (Wd u) H1 → va_S A0 H0 H1 locs1 → W p l e R s m args below meth c H1 locs1 cells slots Q (F0 m (pc + 3) ls (.int (bz b) :: rest))) : W p l e R s m args below meth c H locs cells slots Q (F0 m pc ls st0) :=
  va_calli hr hS (fun q _ h => wA_D hD q h) (wA_D hD) (fun r u t H1 locs1 ht _ hw hB _ hk hS1 => by
    obtain ⟨b, rfl, hw⟩ := hw
    exact kk b u H1 locs1 hw (ht ▸ hB) hS1)
theorem gmu_z {σ : Type} {Wd : σ → va_W} {f : Bool × σ} (hr : va_Run p l e R s m args below meth c H locs cells slots 0 0 (F0 m pc ls st0) rest (gQz D Wd (wA wc) f a) (wA wc)) (hP : va_P D vwCl ws H) (hD : va_D A0 ws) (hS : va_S A0 H0 H locs) (isC : List Nat) (hC : isC.map (fun i => ws[i]?) = wc.map some) (hlen : ∀ u, wc.length = (Wd u).length)
    (kk : ∀ (b : Bool) (u : σ) (H1 : Heap) (locs1 : List Loc), (b, u) = f → va_P D vwCl (gpatch ws isC (Wd u)) H1 → va_S A0 H0 H1 locs1 → W p l e R s m args below meth c H1 locs1 cells slots Q (F0 m (pc + 3) ls (.int (bz b) :: rest))) : W p l e R s m args below meth c H locs cells slots Q (F0 m pc ls st0) :=
  va_calli hr hS (fun q _ h => wA_in hD isC hC q h) (wA_in hD isC hC) (fun r u t H1 locs1 ht _ hw hB _ hk hS1 => by
    obtain ⟨b, rfl, hw⟩ := hw
    exact kk b u H1 locs1 hw (g_patch (A := A0) hP hD isC hC (ht ▸ hB) (hlen u) hk) hS1)
/-- an int array at a known place -/
theorem g_ialdK {tys : List (ClassId × FieldType)} (hexec : p.tables.exec = Jvm.exec) (hb : c.code = cc) (hK : va_K D vwCl tys s) (hP : va_P D vwCl ws H) (q0 t0 : Nat) {cA : ClassId} {b n k : Nat} {f : Nat → Int32} (ha : ws[q0]? = some (b, .inl (cA, n, .inl f))) (ht : tys[t0]? = some (cA, .int)) {i : Int32} (hi : i.toNatClampNeg = k) (h0 : ¬ i < 0) (hkn : k < n) (hdg : decode cc pc = .ok (.iaload, 1))
    (kk : W p l e R s m args below meth c H locs cells slots Q (F0 m (pc + 1) ls (.int (f k) :: rest))) : W p l e R s m args below meth c H locs cells slots Q (F0 m pc ls (.int i :: .ref b :: rest)) := by
  subst hi
  exact va_iald hexec hb hK hP q0 t0 ha ht (fun h => h.elim h0 (fun h => absurd hkn (Nat.not_lt.mpr h))) hdg kk
theorem g_iastK {tys : List (ClassId × FieldType)} (hexec : p.tables.exec = Jvm.exec) (hb : c.code = cc) (hK : va_K D vwCl tys s) (hP : va_P D vwCl ws H) (hD : va_D A ws) (hS : va_S A H0 H locs) (q0 t0 : Nat) {cA : ClassId} {b n k : Nat} {f : Nat → Int32} (ha : ws[q0]? = some (b, .inl (cA, n, .inl f))) (ht : tys[t0]? = some (cA, .int)) {i x : Int32} (hi : i.toNatClampNeg = k) (h0 : ¬ i < 0) (hkn : k < n) (hdg : decode cc pc = .ok (.iastore, 1))
    (kk : ∀ (H1 : Heap) (locs1 : List Loc), va_P D vwCl (ws.set q0 (b, .inl (cA, n, .inl (upd f k x)))) H1 → va_S A H0 H1 locs1 → W p l e R s m args below meth c H1 locs1 cells slots Q (F0 m (pc + 1) ls rest)) : W p l e R s m args below meth c H locs cells slots Q (F0 m pc ls (.int x :: .int i :: .ref b :: rest)) := by
  subst hi
  exact va_iast hexec hb hK hP hD hS q0 t0 ha ht (fun h => h.elim h0 (fun h => absurd hkn (Nat.not_lt.mpr h))) hdg (fun H1 locs1 hP1 _ hS1 => kk H1 locs1 hP1 hS1)
/-- ends of methods that only read -/
theorem e_ri (C0 : Cx p s m meth c cc (some .int) nL own args Ts) {v f : Int32} (h : v = f) (hdg : decode cc pc = .ok (.ireturn, 1)) : W p l e R s m args below meth c s.heap [] 0 0 (MQ below (gRi f) args s 0 0 (fun _ => False)) (F0 m pc ls [.int v]) := by
  obtain ⟨hx, hb, hr, hml, hown, hts, hlocks⟩ := C0
  exact W.iret hx hb hr (fun t ht hW => ⟨v, rfl, h, ht⟩) (fun q h => absurd h List.not_mem_nil) hdg hlocks
theorem e_rz (C0 : Cx p s m meth c cc (some .boolean) nL own args Ts) {v : Int32} {b f : Bool} (hv : v = bz b) (h : b = f) (hdg : decode cc pc = .ok (.ireturn, 1)) : W p l e R s m args below meth c s.heap [] 0 0 (MQ below (gRz f) args s 0 0 (fun _ => False)) (F0 m pc ls [.int v]) := by
  obtain ⟨hx, hb, hr, hml, hown, hts, hlocks⟩ := C0
  subst hv; subst h
  exact W.zret hx hb hr (bz_narrow _) (fun t ht hW => ⟨_, rfl, rfl, ht⟩) (fun q h => absurd h List.not_mem_nil) hdg hlocks
theorem e_rl (C0 : Cx p s m meth c cc (some .long) nL own args Ts) {v f : Int64} (h : v = f) (hdg : decode cc pc = .ok (.lreturn, 1)) : W p l e R s m args below meth c s.heap [] 0 0 (MQ below (gRl f) args s 0 0 (fun _ => False)) (F0 m pc ls [.long v]) := by
  obtain ⟨hx, hb, hr, hml, hown, hts, hlocks⟩ := C0
  exact W.lret hx hb hr (fun t ht hW => ⟨v, rfl, h, ht⟩) (fun q h => absurd h List.not_mem_nil) hdg hlocks
theorem e_rv (C0 : Cx p s m meth c cc none nL own args Ts) (hdg : decode cc pc = .ok (.return_, 1)) : W p l e R s m args below meth c s.heap [] 0 0 (MQ below gRv args s 0 0 (fun _ => False)) (F0 m pc ls []) := by
  obtain ⟨hx, hb, hr, hml, hown, hts, hlocks⟩ := C0
  exact W.vret hx hb hr (fun t ht hW => ⟨rfl, trivial, ht⟩) (fun q h => absurd h List.not_mem_nil) hdg hlocks
/-- ends of methods that change their world -/
theorem e_mi {σ : Type} {Wd : σ → va_W} {f : Int32 × σ} (C0 : Cx p s m meth c cc (some .int) nL own args Ts) {v : Int32} {u : σ} (h : (v, u) = f) (hP : va_P D vwCl (Wd u) H) (hS : va_S A s.heap H locs) (hdg : decode cc pc = .ok (.ireturn, 1)) : W p l e R s m args below meth c H locs 0 0 (MQ below (gQi D Wd A f) args s 0 0 A) (F0 m pc ls [.int v]) := by
  obtain ⟨hx, hb, hr, hml, hown, hts, hlocks⟩ := C0
  exact W.iret hx hb hr (fun t ht hW => ⟨⟨v, u, rfl, h, by show va_P D vwCl (Wd u) t.heap; rw [ht]; exact hP⟩, hS.F ht⟩) hS.2.2 hdg hlocks
theorem e_mz {σ : Type} {Wd : σ → va_W} {f : Bool × σ} (C0 : Cx p s m meth c cc (some .boolean) nL own args Ts) {v : Int32} {b : Bool} {u : σ} (hv : v = bz b) (h : (b, u) = f) (hP : va_P D vwCl (Wd u) H) (hS : va_S A s.heap H locs) (hdg : decode cc pc = .ok (.ireturn, 1)) : W p l e R s m args below meth c H locs 0 0 (MQ below (gQz D Wd A f) args s 0 0 A) (F0 m pc ls [.int v]) := by
  obtain ⟨hx, hb, hr, hml, hown, hts, hlocks⟩ := C0
  subst hv
  exact W.zret hx hb hr (bz_narrow _) (fun t ht hW => ⟨⟨_, u, rfl, ⟨b, rfl, h⟩, by show va_P D vwCl (Wd u) t.heap; rw [ht]; exact hP⟩, hS.F ht⟩) hS.2.2 hdg hlocks
theorem e_ml {σ : Type} {Wd : σ → va_W} {f : Int64 × σ} (C0 : Cx p s m meth c cc (some .long) nL own args Ts) {v : Int64} {u : σ} (h : (v, u) = f) (hP : va_P D vwCl (Wd u) H) (hS : va_S A s.heap H locs) (hdg : decode cc pc = .ok (.lreturn, 1)) : W p l e R s m args below meth c H locs 0 0 (MQ below (gQl D Wd A f) args s 0 0 A) (F0 m pc ls [.long v]) := by
  obtain ⟨hx, hb, hr, hml, hown, hts, hlocks⟩ := C0
  exact W.lret hx hb hr (fun t ht hW => ⟨⟨v, u, rfl, h, by show va_P D vwCl (Wd u) t.heap; rw [ht]; exact hP⟩, hS.F ht⟩) hS.2.2 hdg hlocks
theorem e_md {σ : Type} {Wd : σ → va_W} {f : UInt64 × σ} (C0 : Cx p s m meth c cc (some .double) nL own args Ts) {v : UInt64} {u : σ} (h : (v, u) = f) (hP : va_P D vwCl (Wd u) H) (hS : va_S A s.heap H locs) (hdg : decode cc pc = .ok (.dreturn, 1)) : W p l e R s m args below meth c H locs 0 0 (MQ below (gQd D Wd A f) args s 0 0 A) (F0 m pc ls [.double v]) := by
  obtain ⟨hx, hb, hr, hml, hown, hts, hlocks⟩ := C0
  exact W.dret hx hb hr (fun t ht hW => ⟨⟨v, u, rfl, h, by show va_P D vwCl (Wd u) t.heap; rw [ht]; exact hP⟩, hS.F ht⟩) hS.2.2 hdg hlocks
theorem e_mv {σ : Type} {Wd : σ → va_W} {f : σ} (C0 : Cx p s m meth c cc none nL own args Ts) {u : σ} (h : u = f) (hP : va_P D vwCl (Wd u) H) (hS : va_S A s.heap H locs) (hdg : decode cc pc = .ok (.return_, 1)) : W p l e R s m args below meth c H locs 0 0 (MQ below (gQv D Wd A f) args s 0 0 A) (F0 m pc ls []) := by
  obtain ⟨hx, hb, hr, hml, hown, hts, hlocks⟩ := C0
  exact W.vret hx hb hr (fun t ht hW => ⟨⟨u, rfl, h, by show va_P D vwCl (Wd u) t.heap; rw [ht]; exact hP⟩, hS.F ht⟩) hS.2.2 hdg hlocks
end ROWS
/-! THE REFERENCE'S STATE: its int fields, its long fields, its arrays -/
abbrev MS : Type := (Nat → Int32) × (Nat → Int64) × (Nat → Nat → Int32)
def msi (m : MS) (k : Nat) (x : Int32) : MS := (upd m.1 k x, m.2.1, m.2.2)
def msj (m : MS) (k : Nat) (x : Int64) : MS := (m.1, updJ m.2.1 k x, m.2.2)
def msa (m : MS) (k : Nat) (f : Nat → Int32) : MS := (m.1, m.2.1, updA m.2.2 k f)
