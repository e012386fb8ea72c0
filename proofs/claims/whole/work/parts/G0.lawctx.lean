/-! THE LAW: what a case of its loop owes -/
section LAW1
def rcN (x1 c : Nat) : Int32 := if c = 0 then 0 else if c = x1 then 1 else 2
def oN (c : Nat) (r : Int32) (o : Nat → Int64) : Nat → Int64 := if c = 0 then vp_updL o 0 r.toInt64 else o
theorem lF_eq {σ : Type} (x1 c : Nat) (r : Int32) (st : σ) (o : Nat → Int64) : lF x1 (c, (r, st)) o = (rcN x1 c, (st, oN c r o)) := by
  by_cases h : c = 0
  · subst h
    rfl
  · have e1 : rcN x1 c = if c = x1 then 1 else 2 := if_neg h
    have e2 : oN c r o = o := if_neg h
    have e3 : lF x1 (c, (r, st)) o = if c = x1 then (1, (st, o)) else (2, (st, o)) := if_neg h
    rw [e1, e2, e3]
    by_cases h1 : c = x1
    · rw [if_pos h1, if_pos h1]
    · rw [if_neg h1, if_neg h1]
theorem rcN_0 {x1 c : Nat} (h : rcN x1 c = 0) : c = 0 := by
  unfold rcN at h
  by_cases h0 : c = 0
  · exact h0
  · rw [if_neg h0] at h
    by_cases h1 : c = x1
    · rw [if_pos h1] at h; exact absurd h (by decide)
    · rw [if_neg h1] at h; exact absurd h (by decide)
theorem oN_0 {c : Nat} (h : c = 0) (r : Int32) (o : Nat → Int64) : oN c r o 0 = r.toInt64 := by subst h; rfl
theorem gNs {A : Nat → Prop} {as bs : List Nat} (h : gD A as) (is : List Nat) (hs : is.map (fun i => as[i]?) = bs.map some) : ∀ a ∈ bs, A a := by
  intro a ha
  have h1 : some a ∈ bs.map some := List.mem_map.mpr ⟨a, ha, rfl⟩
  rw [← hs] at h1
  obtain ⟨i, -, hi⟩ := List.mem_map.mp h1
  exact h.2 a (List.mem_of_getElem? hi)
theorem w_in {i L k : Nat} (hi : i + 6 ≤ L) (hL : L ≤ 3072) (hk : k < 6) : vp_in (nI i + nI k) L := by
  rw [nI_add]
  exact vp_in_n (by omega) (by omega)
abbrev lvL (b ao : Nat) (qm qk : Nat → Nat) (i : Nat) : List (Nat × Value) := [(4, .int (nI i)), (3, .ref ao), (2, .ref (qm 0)), (1, .ref (qk 0)), (0, .ref b)]
def LGo (p : Program) (l : Launch) (e : Env) (s : State) (m : MethodId) (below : List Frame) (meth : Method) (c : Code) (b : Nat) (D : va_G) (cI cB cO cL : ClassId) (eA qb qs qu qr qe qx qd qk qm : Nat → Nat) (ao i cells slots : Nat) : Prop :=
  ∀ (bs : BS) (s9 : SS) (u : US) (tr te x : TS) (rd : RS) (kk : Int32) (mm : MS) (o : Nat → Int64) (H : Heap) (locs : List Loc) (ls : Array Slot), LI D cI cB cO cL eA qb qs qu qr qe qx qd qk qm ao bs s9 u tr te x rd kk mm o H → SR bs s9 u x kk mm → va_S (xA s.heap.size) s.heap H locs → lv_has ls 9 (lvL b ao qm qk i) → W p l e room_1 s m #[Value.ref b] below meth c H locs cells slots (lw_Z below #[Value.ref b] s) (F0 m 1972 ls [])
/-- what holds of the start -/
def LStart (p : Program) (l : Launch) (s : State) (m : MethodId) (meth : Method) (c : Code) (b L : Nat) (xs : Nat → Int32) (D : va_G) (cI cB cO cL : ClassId) (sT eA qb qs qu qr qe qx qd qk qm : Nat → Nat) (ao : Nat) : Prop :=
  l.stackTraces = false ∧ Cx p s m meth c cL_law (some .int) 9 RL #[Value.ref b] lw_tbl ∧ va_K D vwCl (tYS cI cB cO cL) s ∧ eF s.heap.size sT eA s s.heap ∧ nC s ∧ va_X b L xs s s.heap ∧ b < s.heap.size ∧ L ≤ 3072 ∧ gD (xA s.heap.size) (gAd qb qs qu qr qe qx qd qk qm ao)
end LAW1
