/-! THE LAW'S LARGER METHODS: what stands, and the calls of helpers -/
section SCTX
def gC (A : Nat → Prop) (f : Nat → List Nat) : Prop := (∀ i, gD A (f i)) ∧ ∀ i j, i ≠ j → ∀ a ∈ f i, a ∉ f j
theorem gD_app {A : Nat → Prop} {as bs : List Nat} (ha : gD A as) (hb : gD A bs) (hd : ∀ a ∈ as, a ∉ bs) : gD A (as ++ bs) := by
  refine ⟨fun i j a hi hj => ?_, fun a h => (List.mem_append.mp h).elim (ha.2 a) (hb.2 a)⟩
  by_cases h1 : i < as.length
  · rw [List.getElem?_append_left h1] at hi
    by_cases h2 : j < as.length
    · rw [List.getElem?_append_left h2] at hj
      exact ha.1 i j a hi hj
    · rw [List.getElem?_append_right (Nat.not_lt.mp h2)] at hj
      exact absurd (List.mem_of_getElem? hj) (hd a (List.mem_of_getElem? hi))
  · rw [List.getElem?_append_right (Nat.not_lt.mp h1)] at hi
    by_cases h2 : j < as.length
    · rw [List.getElem?_append_left h2] at hj
      exact absurd (List.mem_of_getElem? hi) (hd a (List.mem_of_getElem? hj))
    · rw [List.getElem?_append_right (Nat.not_lt.mp h2)] at hj
      have := hb.1 _ _ a hi hj
      omega
def cpL (f : Nat → List Nat) : List Nat → List Nat
  | [] => []
  | [i] => f i
  | i :: j :: is => f i ++ cpL f (j :: is)
theorem mem_cpL {f : Nat → List Nat} {a : Nat} : ∀ (is : List Nat), a ∈ cpL f is → ∃ i ∈ is, a ∈ f i
  | [], h => absurd h List.not_mem_nil
  | [i], h => ⟨i, List.mem_cons_self, h⟩
  | i :: j :: is, h => by
    rcases List.mem_append.mp (show a ∈ f i ++ cpL f (j :: is) from h) with h | h
    · exact ⟨i, List.mem_cons_self, h⟩
    · obtain ⟨k, h1, h2⟩ := mem_cpL (j :: is) h
      exact ⟨k, List.mem_cons_of_mem _ h1, h2⟩
def ndB : List Nat → Bool
  | [] => true
  | i :: is => !(is.contains i) && ndB is
theorem gC_sel {A : Nat → Prop} {f : Nat → List Nat} (h : gC A f) : ∀ (is : List Nat), ndB is = true → gD A (cpL f is)
  | [], _ => ⟨fun i j a hi _ => (by cases hi), fun a h => absurd h List.not_mem_nil⟩
  | [i], _ => h.1 i
  | i :: j :: is, hn => by
    have hn : (!((j :: is).contains i) && ndB (j :: is)) = true := hn
    rw [Bool.and_eq_true] at hn
    refine gD_app (h.1 i) (gC_sel h (j :: is) hn.2) (fun a ha hb => ?_)
    obtain ⟨k, h1, h2⟩ := mem_cpL (j :: is) hb
    by_cases e : i = k
    · subst e
      have : (j :: is).contains i = true := List.contains_iff_mem.mpr h1
      rw [this] at hn
      exact absurd hn.1 (by decide)
    · exact h.2 i k e a ha h2
theorem gC_T {A : Nat → Prop} {f : Nat → List Nat} {L : List Nat} (h : gC A f) (is : List Nat) (hn : ndB is = true) (e : cpL f is = L) : gD (fun _ => True) L := by
  subst e
  exact gD_any (gC_sel h is hn)
theorem gC_N {A : Nat → Prop} {f : Nat → List Nat} {L : List Nat} (h : gC A f) (is : List Nat) (hn : ndB is = true) (e : cpL f is = L) : ∀ a ∈ L, A a := by
  subst e
  exact (gC_sel h is hn).2
/-- the addresses of what stands: the object's parts, and some arrays -/
def cpT (qb qs qu qr qe qk : Nat → Nat) (aw9 : List Nat) : Nat → List Nat := fun k => match k with
  | 0 => bAd qb
  | 1 => sAd qs
  | 2 => uAd qu
  | 3 => aAd qr
  | 4 => eAd qe
  | 5 => kAd qk
  | 6 => aw9
  | _ => []
abbrev OT : Type := BS × SS × US × TS × TS
/-- the object's parts -/
def OI (D : va_G) (cI cB : ClassId) (qb qs qu qr qe qk qx qd : Nat → Nat) (kk : Int32) (v : OT) (H : Heap) : Prop :=
  va_P D vwCl (bw qb cI v.1) H ∧ va_P D vwCl (sw qs cI v.2.1) H ∧ va_P D vwCl (uw qu cI cB v.2.2.1) H ∧ va_P D vwCl (aw qr cI v.2.2.2.1) H ∧ va_P D vwCl (ew qe cI v.2.2.2.2) H ∧ va_P D vwCl (kw qk qb qr qe qs qu qx qd cI kk) H
def rv (c : Nat) (r : Int32) : Int32 := if c = 0 then r else hcode c
theorem hF_of {σ : Type} {f : Nat × (Int32 × σ)} {c : Nat} {r : Int32} {v : σ} (h : f = (c, (r, v))) : hF f = (rv c r, v) := by
  subst h
  rfl
end SCTX
