/-! THE LAW: what a case of its loop owes -/
section LAW1
def rcN (x1 c : Nat) : Int32 := if c = 0 then 0 else if c = x1 then 1 else 2
def oN (c : Nat) (r : Int32) (o : Nat → Int64) : Nat → Int64 := if c = 0 then vp_updL o 0 r.toInt64 else o
theorem lF_eq {σ : Type} (x1 c : Nat) (r : Int32) (st : σ) (o : Nat → Int64) : lF x1 (c, (r, st)) o = (rcN x1 c, (st, oN c r o)) := by
  by_cases h : c = 0
  · subst h
    rfl
  · have e1 : rcN x1 c = if c = x1 then 1 else 2 := if_neg h
    have e2 : oN c r o = o := if_neg h
    have e3 : lF x1 (c, (r, st)) o = if c = x1 then (1, (st, o)) else (2, (st, o)) := if_neg h
    rw [e1, e2, e3]
    by_cases h1 : c = x1
    · rw [if_pos h1, if_pos h1]
    · rw [if_neg h1, if_neg h1]
theorem rcN_0 {x1 c : Nat} (h : rcN x1 c = 0) : c = 0 := by
  unfold rcN at h
  by_cases h0 : c = 0
  · exact h0
  · rw [if_neg h0] at h
    by_cases h1 : c = x1
    · rw [if_pos h1] at h; exact absurd h (by decide)
    · rw [if_neg h1] at h; exact absurd h (by decide)
theorem oN_0 {c : Nat} (h : c = 0) (r : Int32) (o : Nat → Int64) : oN c r o 0 = r.toInt64 := by subst h; rfl
/-- the addresses of what stands, part by part -/
def cp (qb qs qu qr qe qx qd qk qm : Nat → Nat) (ao : Nat) : Nat → List Nat := fun k => match k with
  | 0 => bAd qb
  | 1 => sAd qs
  | 2 => uAd qu
  | 3 => aAd qr
  | 4 => eAd qe
  | 5 => xAd qx
  | 6 => dAd qd
  | 7 => kAd qk
  | 8 => mAd qm
  | 9 => [ao]
  | _ => []
def gC (A : Nat → Prop) (f : Nat → List Nat) : Prop := (∀ i, gD A (f i)) ∧ ∀ i j, i ≠ j → ∀ a ∈ f i, a ∉ f j
theorem gD_app {A : Nat → Prop} {as bs : List Nat} (ha : gD A as) (hb : gD A bs) (hd : ∀ a ∈ as, a ∉ bs) : gD A (as ++ bs) := by
  refine ⟨fun i j a hi hj => ?_, fun a h => (List.mem_append.mp h).elim (ha.2 a) (hb.2 a)⟩
  by_cases h1 : i < as.length
  · rw [List.getElem?_append_left h1] at hi
    by_cases h2 : j < as.length
    · rw [List.getElem?_append_left h2] at hj
      exact ha.1 i j a hi hj
    · rw [List.getElem?_append_right (Nat.not_lt.mp h2)] at hj
      exact absurd (List.mem_of_getElem? hj) (hd a (List.mem_of_getElem? hi))
  · rw [List.getElem?_append_right (Nat.not_lt.mp h1)] at hi
    by_cases h2 : j < as.length
    · rw [List.getElem?_append_left h2] at hj
      exact absurd (List.mem_of_getElem? hi) (hd a (List.mem_of_getElem? hj))
    · rw [List.getElem?_append_right (Nat.not_lt.mp h2)] at hj
      have := hb.1 _ _ a hi hj
      omega
def cpL (f : Nat → List Nat) : List Nat → List Nat
  | [] => []
  | i :: is => f i ++ cpL f is
theorem mem_cpL {f : Nat → List Nat} {a : Nat} : ∀ (is : List Nat), a ∈ cpL f is → ∃ i ∈ is, a ∈ f i := by
  intro is
  induction is with
  | nil => intro h; exact absurd h List.not_mem_nil
  | cons i is ih =>
    intro h
    rcases List.mem_append.mp h with h | h
    · exact ⟨i, List.mem_cons_self, h⟩
    · obtain ⟨j, h1, h2⟩ := ih h
      exact ⟨j, List.mem_cons_of_mem _ h1, h2⟩
def ndB : List Nat → Bool
  | [] => true
  | i :: is => !(is.contains i) && ndB is
theorem gC_sel {A : Nat → Prop} {f : Nat → List Nat} (h : gC A f) : ∀ (is : List Nat), ndB is = true → gD A (cpL f is) := by
  intro is
  induction is with
  | nil => intro _; exact ⟨fun i j a hi _ => (by cases hi), fun a h => absurd h List.not_mem_nil⟩
  | cons i is ih =>
    intro hn
    have hn : (!(is.contains i) && ndB is) = true := hn
    rw [Bool.and_eq_true] at hn
    refine gD_app (h.1 i) (ih hn.2) (fun a ha hb => ?_)
    obtain ⟨j, h1, h2⟩ := mem_cpL is hb
    by_cases e : i = j
    · subst e
      have : is.contains i = true := List.contains_iff_mem.mpr h1
      rw [this] at hn
      exact absurd hn.1 (by decide)
    · exact h.2 i j e a ha h2
theorem gC_T {A : Nat → Prop} {f : Nat → List Nat} {L : List Nat} (h : gC A f) (is : List Nat) (hn : ndB is = true) (e : cpL f is = L) : gD (fun _ => True) L := by
  subst e
  exact gD_any (gC_sel h is hn)
theorem gC_N {A : Nat → Prop} {f : Nat → List Nat} {L : List Nat} (h : gC A f) (is : List Nat) (hn : ndB is = true) (e : cpL f is = L) : ∀ a ∈ L, A a := by
  subst e
  exact (gC_sel h is hn).2
theorem w_in {i L k : Nat} (hi : i + 6 ≤ L) (hL : L ≤ 3072) (hk : k < 6) : vp_in (nI i + nI k) L := by
  rw [nI_add]
  exact vp_in_n (by omega) (by omega)
abbrev lvL (b ao : Nat) (qm qk : Nat → Nat) (i : Nat) : List (Nat × Value) := [(4, .int (nI i)), (3, .ref ao), (2, .ref (qm 0)), (1, .ref (qk 0)), (0, .ref b)]
def LGo (p : Program) (l : Launch) (e : Env) (s : State) (m : MethodId) (below : List Frame) (meth : Method) (c : Code) (b : Nat) (D : va_G) (cI cB cO cL : ClassId) (eA qb qs qu qr qe qx qd qk qm : Nat → Nat) (ao i cells slots : Nat) : Prop :=
  ∀ (bs : BS) (s9 : SS) (u : US) (tr te x : TS) (rd : RS) (kk : Int32) (mm : MS) (o : Nat → Int64) (H : Heap) (locs : List Loc) (ls : Array Slot), LI D cI cB cO cL eA qb qs qu qr qe qx qd qk qm ao bs s9 u tr te x rd kk mm o H → SR bs s9 u x kk mm → va_S (xA s.heap.size) s.heap H locs → lv_has ls 9 (lvL b ao qm qk i) → W p l e room_1 s m #[Value.ref b] below meth c H locs cells slots (lw_Z below #[Value.ref b] s) (F0 m 1972 ls [])
/-- what holds of the start -/
def LStart (p : Program) (l : Launch) (s : State) (m : MethodId) (meth : Method) (c : Code) (b L : Nat) (xs : Nat → Int32) (D : va_G) (cI cB cO cL : ClassId) (sT eA qb qs qu qr qe qx qd qk qm : Nat → Nat) (ao : Nat) : Prop :=
  l.stackTraces = false ∧ Cx p s m meth c cL_law ret 9 RL #[Value.ref b] lw_tbl ∧ va_K D vwCl (tYS cI cB cO cL) s ∧ eF s.heap.size sT eA s s.heap ∧ nC s ∧ va_X b L xs s s.heap ∧ b < s.heap.size ∧ L ≤ 3072 ∧ gC (xA s.heap.size) (cp qb qs qu qr qe qx qd qk qm ao)
end LAW1
