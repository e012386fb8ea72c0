/-! PURE, of both sides: numbers, roots -/
section PURE0
theorem pu_sq {N r t : Nat} (h1 : r * r ≤ N) (h2 : N < (r + 1) * (r + 1)) (h3 : t * t ≤ N) (h4 : N < (t + 1) * (t + 1)) : r = t := by
  have a : ¬ r < t := fun h => by
    have := Nat.mul_le_mul (show r + 1 ≤ t from h) (show r + 1 ≤ t from h)
    omega
  have b : ¬ t < r := fun h => by
    have := Nat.mul_le_mul (show t + 1 ≤ r from h) (show t + 1 ≤ r from h)
    omega
  omega
theorem pu_fu (k : Nat) (h : k ≤ 5000) : ∃ n, fu = n + k ∧ 5000 ≤ n + k := ⟨fu - k, by have := fu_ge; omega, by have := fu_ge; omega⟩
def wbit (k : Nat) : Nat := if k = 0 then 0 else 2 ^ (k - 1)
theorem wshr : ∀ k, k < 15 → lN (2 ^ k) >>> ((1 : Int32).toInt64 &&& 63) = lN (wbit k) := by decide +kernel
theorem pu_way (N : Nat) (hN : N < 2 ^ 40) : ∀ (k r n : Nat), k < n → k ≤ 15 → r + 2 ^ k ≤ 2 ^ 15 → r * r ≤ N → N < (r + 2 ^ k) * (r + 2 ^ k) → ∃ t, pX7_way_L20 n (lN N) (lN r) (lN (wbit k)) = nI t ∧ kX7_way_L20 n (lN N) (lN r) (lN (wbit k)) ∧ t * t ≤ N ∧ N < (t + 1) * (t + 1) := by
  intro k
  induction k with
  | zero =>
    intro r n hk hk2 h1 h2 h3
    obtain ⟨n, rfl⟩ : ∃ q, n = q + 1 := ⟨n - 1, by omega⟩
    refine ⟨r, ?_, ?_, h2, h3⟩
    · show bX7_way_L20 _ _ _ _ = _
      unfold bX7_way_L20
      rw [if_pos (show lN (wbit 0) ≤ 0 by decide +kernel), lN_i]
    · show kbX7_way_L20 _ _ _ _
      unfold kbX7_way_L20
      rw [if_pos (show lN (wbit 0) ≤ 0 by decide +kernel)]
      trivial
  | succ k ih =>
    intro r n hk hk2 h1 h2 h3
    obtain ⟨n, rfl⟩ : ∃ q, n = q + 1 := ⟨n - 1, by omega⟩
    have hw : wbit (k + 1) = 2 ^ k := by unfold wbit; rw [if_neg (by omega)]; rfl
    have hsh := wshr k (by omega)
    rw [hw]
    have hp : 0 < 2 ^ k := Nat.two_pow_pos k
    have hp2 : 2 ^ k ≤ 2 ^ 14 := Nat.pow_le_pow_right (by omega) (by omega)
    rw [Nat.pow_succ] at h1 h3
    generalize hP : 2 ^ k = P at *
    have hn0 : ¬ lN P ≤ 0 := fun h => by
      have := (pk_lLE (a := P) (b := 0) (by omega) (by omega)).mp h
      omega
    have hrr : (r + P) * (r + P) ≤ 2 ^ 15 * 2 ^ 15 := Nat.mul_le_mul (by omega) (by omega)
    by_cases hc : N < (r + P) * (r + P)
    · obtain ⟨t, e1, e2, e3⟩ := ih r n (by omega) (by omega) (by omega) h2 hc
      refine ⟨t, ?_, ?_, e3⟩
      · show bX7_way_L20 (pX7_way_L20 n) _ _ _ = _
        unfold bX7_way_L20
        rw [if_neg hn0, lN_add, lN_mul, if_pos ((pk_lLT (by omega) (by omega)).mpr hc)]
        unfold pX7_way_L50
        simp only [lt]
        rw [hsh]
        exact e1
      · show kbX7_way_L20 (kX7_way_L20 n) _ _ _
        unfold kbX7_way_L20
        rw [if_neg hn0, lN_add, lN_mul, if_pos ((pk_lLT (by omega) (by omega)).mpr hc)]
        unfold kX7_way_L50
        simp only [lt]
        rw [hsh]
        exact e2
    · obtain ⟨t, e1, e2, e3⟩ := ih (r + P) n (by omega) (by omega) (by omega) (by omega) (by rw [show r + P + P = r + P * 2 by omega]; exact h3)
      refine ⟨t, ?_, ?_, e3⟩
      · show bX7_way_L20 (pX7_way_L20 n) _ _ _ = _
        unfold bX7_way_L20
        rw [if_neg hn0, lN_add, lN_mul, if_neg (fun h => hc ((pk_lLT (by omega) (by omega)).mp h))]
        unfold pX7_way_L50
        simp only [lt]
        rw [hsh]
        exact e1
      · show kbX7_way_L20 (kX7_way_L20 n) _ _ _
        unfold kbX7_way_L20
        rw [if_neg hn0, lN_add, lN_mul, if_neg (fun h => hc ((pk_lLT (by omega) (by omega)).mp h))]
        unfold kX7_way_L50
        simp only [lt]
        rw [hsh]
        exact e2
theorem pu_wayN (N : Nat) (hN : N < 2 ^ 30) : ∃ r, pX7_way_L20 fu (lN N) 0 16384 = nI r ∧ kX7_way_L20 fu (lN N) 0 16384 ∧ r * r ≤ N ∧ N < (r + 1) * (r + 1) :=
  pu_way N (by omega) 15 0 fu (by have := fu_ge; omega) (by omega) (by omega) (by omega) (by omega)
def rg (x : Int32) (a b : Int) : Prop := a ≤ x.toInt ∧ x.toInt ≤ b
theorem pu_nI {x : Int32} (h : 0 ≤ x.toInt) : x = nI x.toInt.toNat := by
  have hlt : x.toInt < 2 ^ 31 := x.toInt_lt
  exact Int32.toInt_inj.mp (by rw [nI_toInt (by omega)]; omega)
theorem pu_sqI {x : Int32} (h : rg x (-20000) 20000) : x * x = nI (x.toInt.natAbs * x.toInt.natAbs) ∧ x.toInt64 * x.toInt64 = lN (x.toInt.natAbs * x.toInt.natAbs) ∧ x.toInt.natAbs * x.toInt.natAbs ≤ 400000000 := by
  obtain ⟨h1, h2⟩ := h
  have hb : x.toInt.natAbs * x.toInt.natAbs ≤ 20000 * 20000 := Nat.mul_le_mul (by omega) (by omega)
  have hq : x.toInt * x.toInt = ((x.toInt.natAbs * x.toInt.natAbs : Nat) : Int) := Int.natAbs_mul_self.symm
  refine ⟨?_, ?_, hb⟩
  · apply Int32.toInt_inj.mp
    rw [nI_toInt (by omega), Kit.i32_mul (by rw [hq]; omega) (by rw [hq]; omega), hq]
  · apply Int64.toInt_inj.mp
    rw [pk_lT (by omega), Kit.i64_mul (by rw [Int32.toInt_toInt64, hq]; omega) (by rw [Int32.toInt_toInt64, hq]; omega), Int32.toInt_toInt64, hq]
end PURE0
