/-! PURE: a quotient of two small whole numbers is a number -/
section MIDDLE
variable {C R M W N : Nat} {b b' : BS} {S S' : Nat → Int32} {m : MS}
def isFin : FP.Core.Datum → Bool
  | .fin _ _ _ => true
  | _ => false
def isFin0 : FP.Core.Datum → Bool
  | .fin _ c _ => decide (c ≠ 0)
  | _ => false
theorem i2d_small2 : ∀ a, a < 81 → ∀ c, c < 100 → isFin (FP.Core.decode FP.Core.b64 (FP.i2d (nI (100 * a + c))).toNat) = true := by decide +kernel
theorem i2d_small (s : Nat) (h : s < 8001) : isFin (FP.Core.decode FP.Core.b64 (FP.i2d (nI s)).toNat) = true := by
  have e := i2d_small2 (s / 100) (by omega) (s % 100) (by omega)
  rw [show 100 * (s / 100) + s % 100 = s by omega] at e
  exact e
theorem i2d_pos : ∀ s, s < 401 → 0 < s → isFin0 (FP.Core.decode FP.Core.b64 (FP.i2d (nI s)).toNat) = true := by decide +kernel
theorem enc_n64 {d : FP.Core.Datum} (h : (∃ s, d = .inf s) ∨ ∃ s c q, d = .fin s c q ∧ c < 2 ^ 53 ∧ q ≤ FP.Core.b64.qmax) : vf_n64 (UInt64.ofNat (FP.Core.encode FP.Core.b64 d)) := by
  have ht : FP.Core.b64.tails = 2 ^ 52 := rfl
  have he : FP.Core.b64.exps = 2048 := rfl
  have hx : FP.Core.b64.qmax = 971 := by decide
  have hn : FP.Core.b64.qmin = -1074 := by decide
  have key : ∀ (s : Bool) (e t : Nat), (e < 2047 ∧ t < 2 ^ 52 ∨ e = 2047 ∧ t = 0) → vf_n64 (UInt64.ofNat (FP.Core.assemble FP.Core.b64 s e t)) := by
    intro s e t h
    unfold vf_n64 FP.Core.assemble
    rw [ht, he]
    rw [UInt64.le_iff_toNat_le, UInt64.toNat_and]
    have e1 : ((0x7fffffffffffffff : UInt64)).toNat = 2 ^ 63 - 1 := by decide
    have e2 : ((0x7ff0000000000000 : UInt64)).toNat = 2047 * 2 ^ 52 := by decide
    rw [e1, e2, Nat.and_two_pow_sub_one_eq_mod, UInt64.toNat_ofNat']
    have hs : s.toNat ≤ 1 := by cases s <;> decide
    generalize s.toNat = z at hs
    omega
  rcases h with ⟨s, rfl⟩ | ⟨s, c, q, rfl, hc, hq⟩
  · exact key s 2047 0 (Or.inr ⟨rfl, rfl⟩)
  · unfold FP.Core.encode
    simp only [ht]
    by_cases h : c < 2 ^ 52
    · rw [if_pos h]
      exact key s 0 c (Or.inl ⟨by omega, h⟩)
    · rw [if_neg h]
      rw [hx] at hq
      refine key s _ _ (Or.inl ⟨?_, by omega⟩)
      rw [hn]
      omega
theorem ratio_n64 (s : Bool) (c d : Nat) (e : Int) : (∃ s', FP.Core.roundRatio FP.Core.b64 s c d e = .inf s') ∨ ∃ s' c' q, FP.Core.roundRatio FP.Core.b64 s c d e = .fin s' c' q ∧ c' < 2 ^ 53 ∧ q ≤ FP.Core.b64.qmax := by
  unfold FP.Core.roundRatio
  by_cases h : c = 0
  · rw [if_pos h]
    exact Or.inr ⟨s, 0, _, rfl, by decide, by decide⟩
  · rw [if_neg h]
    unfold FP.Core.roundAt FP.Core.settle FP.Core.bound
    by_cases h1 : FP.Core.nearest (FP.Core.unitsNum c e (FP.Core.quantum FP.Core.b64 c d e)) (FP.Core.unitsDen d e (FP.Core.quantum FP.Core.b64 c d e)) < 2 ^ FP.Core.b64.p
    · rw [if_pos h1]
      by_cases h2 : FP.Core.quantum FP.Core.b64 c d e ≤ FP.Core.b64.qmax
      · rw [if_pos h2]
        exact Or.inr ⟨s, _, _, rfl, h1, h2⟩
      · rw [if_neg h2]
        exact Or.inl ⟨s, rfl⟩
    · rw [if_neg h1]
      by_cases h2 : FP.Core.quantum FP.Core.b64 c d e + 1 ≤ FP.Core.b64.qmax
      · rw [if_pos h2]
        exact Or.inr ⟨s, _, _, rfl, by decide, h2⟩
      · rw [if_neg h2]
        exact Or.inl ⟨s, rfl⟩
theorem quot_n64 {s t : Nat} (hs : s ≤ 8000) (ht : t ≤ 400) (h0 : 0 < t) : vf_n64 (FP.ddiv (FP.i2d (nI s)) (FP.i2d (nI t))) := by
  have a := i2d_small s (by omega)
  have c := i2d_pos t (by omega) h0
  show vf_n64 (UInt64.ofNat (FP.Core.encode FP.Core.b64 (FP.Core.quotient FP.Core.b64 (FP.Core.decode FP.Core.b64 (FP.i2d (nI s)).toNat) (FP.Core.decode FP.Core.b64 (FP.i2d (nI t)).toNat))))
  generalize FP.Core.decode FP.Core.b64 (FP.i2d (nI s)).toNat = x at a
  generalize FP.Core.decode FP.Core.b64 (FP.i2d (nI t)).toNat = y at c
  cases x with
  | nan => exact absurd a (by decide)
  | inf s => exact absurd a (by simp [isFin])
  | fin s1 c1 q1 =>
    cases y with
    | nan => exact absurd c (by decide)
    | inf s => exact absurd c (by simp [isFin0])
    | fin s2 c2 q2 =>
      have c0 : c2 ≠ 0 := of_decide_eq_true c
      refine enc_n64 ?_
      show (∃ s, (if c2 = 0 then _ else FP.Core.roundRatio FP.Core.b64 (s1 != s2) c1 c2 (q1 - q2)) = _) ∨ ∃ s c q, (if c2 = 0 then _ else FP.Core.roundRatio FP.Core.b64 (s1 != s2) c1 c2 (q1 - q2)) = _ ∧ _ ∧ _
      rw [if_neg c0]
      exact ratio_n64 _ _ _ _
theorem smQ_b2 (p : Nat → Bool) (f : Nat → Nat) {n' : Nat} (h : ∀ c, c < n' → f c ≤ 19) : ∀ n, n ≤ n' → smQ p f n ≤ 19 * n
  | 0, _ => Nat.le_refl 0
  | n + 1, hn => by
    have := smQ_b2 p f h n (by omega)
    have := h n (by omega)
    show smQ p f n + _ ≤ _
    split <;> omega
end MIDDLE
