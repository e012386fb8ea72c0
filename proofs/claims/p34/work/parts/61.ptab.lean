/-! PURE: tables -/
section PTAB
theorem pt_le {i c k w : Nat} (hi : i < c) (hk : k < w) : i * w + k < c * w := by
  have h : (i + 1) * w ≤ c * w := Nat.mul_le_mul_right w hi
  rw [Nat.succ_mul] at h
  omega
theorem vp_in_n {i n : Nat} (h : i < n) (hn : n < 2 ^ 31) : vp_in (nI i) n := nI_in h hn
theorem at_in {cap : Int32} {len c w i k : Nat} {f : Nat → Int32} {ii kk wid : Int32} (hi : ii = nI i) (hk : kk = nI k) (hw : wid = nI w) (h1 : i < c) (h2 : k < w) (h3 : c ≤ 1000) (h4 : w ≤ 1000) (h5 : c * w ≤ len) (h6 : len < 2 ^ 31) : pX9_at cap wid len (nI c, f) ii kk = f (i * w + k) ∧ kX9_at cap wid len (nI c, f) ii kk := by
  subst hi hk hw
  have h7 := pt_le h1 h2
  unfold pX9_at kX9_at
  rw [if_neg (nI_pos (by omega)), if_neg (nI_ge h1 (by omega)), if_neg (nI_pos (by omega)), if_pos (nI_lt h2 (by omega)), if_neg (nI_pos (by omega)), if_neg (nI_ge h1 (by omega)), if_neg (nI_pos (by omega)), if_pos (nI_lt h2 (by omega)), pk_mul, nI_add]
  rw [nI_clamp (by omega)]
  exact ⟨rfl, vp_in_n (by omega) h6⟩
theorem at_out {cap wid kk : Int32} {len c i : Nat} {f : Nat → Int32} {ii : Int32} (hi : ii = nI i) (h1 : c ≤ i) (h2 : i < 2 ^ 31) : pX9_at cap wid len (nI c, f) ii kk = -1000000000 ∧ kX9_at cap wid len (nI c, f) ii kk := by
  subst hi
  unfold pX9_at kX9_at
  rw [if_neg (nI_pos h2), if_pos (nI_le h1 h2), if_neg (nI_pos h2), if_pos (nI_le h1 h2)]
  exact ⟨rfl, trivial⟩
theorem at_neg {cap wid kk : Int32} {len : Nat} {t : TS} {ii : Int32} (h : ii < 0) : pX9_at cap wid len t ii kk = -1000000000 ∧ kX9_at cap wid len t ii kk := by
  unfold pX9_at kX9_at
  rw [if_pos h, if_pos h]
  exact ⟨rfl, trivial⟩
theorem at_no {cap wid kk : Int32} {len : Nat} {t : TS} : pX9_at cap wid len t (-1000000000) kk = -1000000000 ∧ kX9_at cap wid len t (-1000000000) kk := at_neg (by decide)
theorem put_in {cap : Int32} {len c w i k : Nat} {f : Nat → Int32} {ii kk wid x : Int32} (hi : ii = nI i) (hk : kk = nI k) (hw : wid = nI w) (h1 : i < c) (h2 : k < w) (h3 : c ≤ 1000) (h4 : w ≤ 1000) (h5 : c * w ≤ len) (h6 : len < 2 ^ 31) : pX9_put cap wid len (nI c, f) ii kk x = (nI c, upd f (i * w + k) x) ∧ kX9_put cap wid len (nI c, f) ii kk x := by
  subst hi hk hw
  have h7 := pt_le h1 h2
  unfold pX9_put kX9_put
  rw [if_neg (nI_pos (by omega)), if_neg (nI_ge h1 (by omega)), if_neg (nI_pos (by omega)), if_pos (nI_lt h2 (by omega)), if_neg (nI_pos (by omega)), if_neg (nI_ge h1 (by omega)), if_neg (nI_pos (by omega)), if_pos (nI_lt h2 (by omega)), pk_mul, nI_add]
  simp only [lt]
  rw [nI_clamp (by omega)]
  exact ⟨rfl, vp_in_n (by omega) h6⟩
theorem full_eq {C c len : Nat} {cap wid : Int32} {f : Nat → Int32} (hc : cap = nI C) (h1 : C ≤ 1000) (h2 : c ≤ 1000) : pX9_isFull cap wid len (nI c, f) = decide (C ≤ c) := by
  subst hc
  unfold pX9_isFull
  by_cases h : c < C
  · rw [if_pos (nI_lt h (by omega))]; simp; omega
  · rw [if_neg (nI_nlt (by omega) (by omega))]; simp; omega
theorem has_eq {cap wid ii : Int32} {c len : Nat} {f : Nat → Int32} (h2 : c ≤ 1000) : pX9_has cap wid len (nI c, f) ii = decide (0 ≤ ii.toInt ∧ ii.toInt < c) := by
  unfold pX9_has
  have e0 : ((0 : Int32)).toInt = 0 := rfl
  have e1 := nI_toInt (n := c) (by omega)
  by_cases h : ii < 0
  · rw [if_pos h]; rw [fa_lt, e0] at h; simp; omega
  · rw [if_neg h]
    rw [fa_lt, e0] at h
    by_cases h3 : nI c ≤ ii
    · rw [if_pos h3]; rw [fa_le, e1] at h3; simp; omega
    · rw [if_neg h3]; rw [fa_le, e1] at h3; simp; omega
def noneRow (f : Nat → Int32) (a b : Nat) : Nat → Int32 := fun q => if a ≤ q ∧ q < b then -1000000000 else f q
theorem noneRow_self (f : Nat → Int32) (a : Nat) : noneRow f a a = f := by
  funext q; unfold noneRow; rw [if_neg (by omega)]
theorem noneRow_upd (f : Nat → Int32) (a b : Nat) (h : a ≤ b) : upd (noneRow f a b) b (-1000000000) = noneRow f a (b + 1) := by
  funext q
  unfold upd noneRow
  by_cases e : q = b
  · rw [if_pos e, if_pos (by omega)]
  · rw [if_neg e]
    by_cases e2 : a ≤ q ∧ q < b
    · rw [if_pos e2, if_pos (by omega)]
    · rw [if_neg e2, if_neg (by omega)]
theorem addRow_L {cap : Int32} {len c w : Nat} (h3 : c < 1000) (h4 : w ≤ 1000) (h5 : (c + 1) * w ≤ len) (h6 : len < 2 ^ 31) (f : Nat → Int32) : ∀ (n k : Nat), k ≤ w → w - k < n → pX9_addRow_L27 cap (nI w) len n (nI c) (nI k) (nI (c + 1), noneRow f (c * w) (c * w + k)) = (nI c, (nI (c + 1), noneRow f (c * w) (c * w + w))) ∧ kX9_addRow_L27 cap (nI w) len n (nI c) (nI k) (nI (c + 1), noneRow f (c * w) (c * w + k)) := by
  intro n
  induction n with
  | zero => intro k h1 h2; omega
  | succ n ih =>
    intro k h1 h2
    show bX9_addRow_L27 _ _ _ (pX9_addRow_L27 cap (nI w) len n) _ _ _ = _ ∧ kbX9_addRow_L27 _ _ _ (kX9_addRow_L27 cap (nI w) len n) _ _ _
    unfold bX9_addRow_L27 kbX9_addRow_L27
    by_cases e : k = w
    · subst e
      rw [if_pos (nI_le (Nat.le_refl _) (by omega)), if_pos (nI_le (Nat.le_refl _) (by omega))]
      exact ⟨rfl, trivial⟩
    · rw [if_neg (nI_ge (a := k) (by omega) (by omega)), if_neg (nI_ge (a := k) (by omega) (by omega))]
      obtain ⟨a1, a2⟩ := put_in (cap := cap) (len := len) (c := c + 1) (w := w) (i := c) (k := k) (f := noneRow f (c * w) (c * w + k)) (x := -1000000000) rfl rfl rfl (by omega) (by omega) (by omega) (by omega) h5 h6
      simp only [lt]
      rw [a1, noneRow_upd _ _ _ (by omega), nI_1]
      have h := ih (k + 1) (by omega) (by omega)
      exact ⟨h.1, a2, h.2⟩
theorem addRow_eq {C c w len : Nat} {cap wid : Int32} {f : Nat → Int32} (hc : cap = nI C) (hw : wid = nI w) (h1 : c < C) (h2 : C ≤ 1000) (h4 : w ≤ 1000) (h5 : C * w ≤ len) (h6 : len < 2 ^ 31) : pX9_addRow cap wid len (nI c, f) = (nI c, (nI (c + 1), noneRow f (c * w) (c * w + w))) ∧ kX9_addRow cap wid len (nI c, f) := by
  unfold pX9_addRow kX9_addRow
  rw [full_eq hc h2 (by omega), if_neg (by simp; omega), if_neg (by simp; omega)]
  simp only [lt]
  rw [nI_1, hw]
  have h7 : (c + 1) * w ≤ C * w := Nat.mul_le_mul_right w h1
  have h := addRow_L (cap := cap) (len := len) (c := c) (w := w) (by omega) h4 (by omega) h6 f fu 0 (by omega) (by have := fu_ge; omega)
  rw [show c * w + 0 = c * w from rfl, noneRow_self] at h
  exact h
theorem drop_eq {cap wid ii : Int32} {c w i len : Nat} {f : Nat → Int32} (hi : ii = nI i) (hw : wid = nI w) (h1 : i < c) (h2 : c ≤ 1000) (h4 : w ≤ 1000) (h5 : c * w ≤ len) (h6 : len < 2 ^ 31) : pX9_dropRow cap wid len (nI c, f) ii = (nI (c - 1), va_cpy f f ((i + 1) * w) (i * w) ((c - i - 1) * w)) ∧ kX9_dropRow cap wid len (nI c, f) ii := by
  subst hi hw
  unfold pX9_dropRow kX9_dropRow
  have e1 := nI_toInt (n := i) (by omega)
  have hh : (0 ≤ (nI i).toInt ∧ (nI i).toInt < c) := by rw [e1]; omega
  rw [has_eq h2, if_pos (by simp [hh]), if_pos (by simp [hh])]
  simp only [lt]
  have e2 : nI c - nI i - 1 = nI (c - i - 1) := by
    rw [show c = (c - i - 1) + 1 + i by omega, ← nI_add, Int32.add_sub_cancel, nI_pred]
    congr 1
    omega
  have e3 : nI c - 1 = nI (c - 1) := by
    rw [show c = (c - 1) + 1 by omega, nI_pred]
    rfl
  have m1 : (c - i - 1) * w + (i + 1) * w = c * w := by rw [← Nat.add_mul]; congr 1; omega
  have m2 : (c - i - 1) * w + i * w ≤ c * w := by rw [← Nat.add_mul]; exact Nat.mul_le_mul_right w (by omega)
  rw [e2, e3, nI_1, pk_mul, pk_mul, pk_mul, nI_clamp (by omega), nI_clamp (by omega), nI_clamp (by omega)]
  exact ⟨rfl, nI_pos (by omega), nI_pos (by omega), nI_pos (by omega), by omega, by omega⟩
theorem jmin_self (x : Int32) : jmin x x = x := by unfold jmin; split <;> rfl
theorem tcopy_eq {cap wid cap2 wid2 : Int32} {len : Nat} {t t2 : TS} (h6 : len < 2 ^ 31) : pX9_copyFrom cap wid len cap2 wid2 len t t2 = ((t2.1, va_cpy t2.2 t.2 0 0 len), t2) ∧ kX9_copyFrom cap wid len cap2 wid2 len t t2 := by
  unfold pX9_copyFrom kX9_copyFrom
  rw [jmin_self, nI_clamp h6]
  have e : ((0 : Int32)).toNatClampNeg = 0 := rfl
  rw [e]
  exact ⟨rfl, nI_pos h6, by omega, by omega⟩
theorem bst_t0 (b : BS) (t : TS) : ((bst b 0 t).1 4, (bst b 0 t).2 0) = t := rfl
theorem bst_t1 (b : BS) (t : TS) : ((bst b 1 t).1 5, (bst b 1 t).2 1) = t := rfl
theorem bst_t2 (b : BS) (t : TS) : ((bst b 2 t).1 6, (bst b 2 t).2 2) = t := rfl
theorem bst_t3 (b : BS) (t : TS) : ((bst b 3 t).1 7, (bst b 3 t).2 3) = t := rfl
theorem upd_upd (f : Nat → Int32) (k : Nat) (x y : Int32) : upd (upd f k x) k y = upd f k y := by
  funext j; unfold upd; split <;> rfl
theorem updA_updA (f : Nat → Nat → Int32) (k : Nat) (x y : Nat → Int32) : updA (updA f k x) k y = updA f k y := by
  funext j; unfold updA; split <;> rfl
theorem bst_bst (b : BS) (j : Nat) (t u : TS) : bst (bst b j t) j u = bst b j u := by
  unfold bst
  rw [upd_upd, updA_updA]
end PTAB
