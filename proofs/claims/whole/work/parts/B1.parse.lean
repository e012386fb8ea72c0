/-! PURE: texts of commands: what stands where; the reference's reader -/
noncomputable section PARSE
theorem wb_tb (n : Nat) : (lN n).toBitVec = BitVec.ofNat 64 n := rfl
theorem wb_inj {a b : Int64} (h : a.toBitVec = b.toBitVec) : a = b := Int64.toBitVec_inj.mp h
theorem wb_c : ∀ k, k < 64 → ((nI k).toInt64 &&& 63) = lN k := by decide +kernel
theorem wb_sm : ∀ k, k < 64 → (BitVec.ofNat 64 k).smod 64 = BitVec.ofNat 64 k := by decide +kernel
theorem wb_shl (n : Nat) {k : Nat} (hk : k < 64) : lN n <<< ((nI k).toInt64 &&& 63) = lN (n * 2 ^ k) := by
  rw [wb_c k hk]
  apply wb_inj
  rw [Int64.toBitVec_shiftLeft, wb_tb, wb_tb, wb_tb, wb_sm k hk]
  apply BitVec.eq_of_toNat_eq
  rw [BitVec.shiftLeft_eq', BitVec.toNat_shiftLeft, BitVec.toNat_ofNat, BitVec.toNat_ofNat, BitVec.toNat_ofNat, Nat.mod_eq_of_lt (show k < 2 ^ 64 by omega), Nat.shiftLeft_eq, Nat.mul_mod, Nat.mod_mod, ← Nat.mul_mod]
theorem wb_or {a b : Nat} (ha : a < 2 ^ 64) (hb : b < 2 ^ 64) : lN a ||| lN b = lN (a ||| b) := by
  apply wb_inj
  rw [Int64.toBitVec_or, wb_tb, wb_tb, wb_tb]
  apply BitVec.eq_of_toNat_eq
  rw [BitVec.toNat_or, BitVec.toNat_ofNat, BitVec.toNat_ofNat, BitVec.toNat_ofNat, Nat.mod_eq_of_lt ha, Nat.mod_eq_of_lt hb, Nat.mod_eq_of_lt (Nat.or_lt_two_pow ha hb)]
theorem ps_pack {A c : Nat} (hA : A < 2 ^ 48) (hc : c < 256) : (lN A <<< ((8 : Int32).toInt64 &&& 63)) ||| (nI c).toInt64 = lN (A * 256 + c) := by
  have e1 : lN A <<< ((8 : Int32).toInt64 &&& 63) = lN (A * 2 ^ 8) := wb_shl A (k := 8) (by omega)
  have e2 : (nI c).toInt64 = lN c := by
    apply Int64.toInt_inj.mp
    rw [Int32.toInt_toInt64, nI_toInt (by omega), pk_lT (by omega)]
  have e3 : A * 2 ^ 8 ||| c = A * 2 ^ 8 + c := by rw [← Nat.shiftLeft_eq, Nat.shiftLeft_add_eq_or_of_lt (by omega)]
  rw [e1, e2, wb_or (by omega) (by omega), e3]
/-- a byte of the text between a and z stands at p -/
def atB (T : Nat → Int32) (n : Nat) (a z : Int32) (p : Nat) : Bool := decide (p < n) && pX12_in (T p) a z
theorem at_lt {T : Nat → Int32} {n p : Nat} {a z : Int32} (h : atB T n a z p = true) : p < n := by
  unfold atB at h
  simp at h
  exact h.1
theorem at_in2 {T : Nat → Int32} {n p : Nat} {a z : Int32} (h : atB T n a z p = true) : rg (T p) a.toInt z.toInt := by
  unfold atB at h
  simp at h
  exact (in_iff _ _ _).mp h.2
theorem at_mk {T : Nat → Int32} {n p : Nat} {a z : Int32} (h : p < n) (h2 : rg (T p) a.toInt z.toInt) : atB T n a z p = true := by
  unfold atB
  rw [(in_iff _ _ _).mpr h2]
  simp [h]
theorem at_eq1 {T : Nat → Int32} {n p : Nat} {c : Int32} : atB T n c c p = true ↔ p < n ∧ T p = c := by
  constructor
  · intro h
    have h2 := at_in2 h
    exact ⟨at_lt h, Int32.toInt_inj.mp (by have := h2.1; have := h2.2; omega)⟩
  · intro ⟨h, e⟩
    exact at_mk h (by rw [e]; exact ⟨Int.le_refl _, Int.le_refl _⟩)
/-- on over such bytes -/
def scF (T : Nat → Int32) (n : Nat) (a z : Int32) : Nat → Nat → Nat
  | 0, p => p
  | d + 1, p => if atB T n a z p = true then scF T n a z d (p + 1) else p
def sc (T : Nat → Int32) (n : Nat) (a z : Int32) (p : Nat) : Nat := scF T n a z (n - p) p
section SC
variable {T : Nat → Int32} {n : Nat} {a z : Int32}
theorem sc_yes {p : Nat} (h : atB T n a z p = true) : sc T n a z p = sc T n a z (p + 1) := by
  have := at_lt h
  unfold sc
  obtain ⟨d, hd⟩ : ∃ d, n - p = d + 1 := ⟨n - p - 1, by omega⟩
  rw [hd, show n - (p + 1) = d by omega, show scF T n a z (d + 1) p = if atB T n a z p = true then scF T n a z d (p + 1) else p from rfl, if_pos h]
theorem sc_no {p : Nat} (h : ¬ atB T n a z p = true) : sc T n a z p = p := by
  unfold sc
  cases n - p with
  | zero => rfl
  | succ d =>
    rw [show scF T n a z (d + 1) p = if atB T n a z p = true then scF T n a z d (p + 1) else p from rfl, if_neg h]
theorem sc_ind {P : Nat → Prop} (h1 : ∀ p, atB T n a z p = true → P (p + 1) → P p) (h2 : ∀ p, ¬ atB T n a z p = true → P p) (p : Nat) : P p := by
  obtain ⟨d, hd⟩ : ∃ d, n - p = d := ⟨_, rfl⟩
  induction d generalizing p with
  | zero => exact h2 p (fun h => by have := at_lt h; omega)
  | succ d ih =>
    by_cases h : atB T n a z p = true
    · exact h1 p h (ih (p + 1) (by omega))
    · exact h2 p h
theorem sc_end (p : Nat) : ¬ atB T n a z (sc T n a z p) = true := by
  refine sc_ind (T := T) (n := n) (a := a) (z := z) (P := fun p => ¬ atB T n a z (sc T n a z p) = true) (fun p h ih => ?_) (fun p h => ?_) p
  · rw [sc_yes h]; exact ih
  · rw [sc_no h]; exact h
theorem sc_ge (p : Nat) : p ≤ sc T n a z p := by
  refine sc_ind (T := T) (n := n) (a := a) (z := z) (P := fun p => p ≤ sc T n a z p) (fun p h ih => ?_) (fun p h => ?_) p
  · rw [sc_yes h]; omega
  · rw [sc_no h]; omega
theorem sc_le {p : Nat} (hp : p ≤ n) : sc T n a z p ≤ n := by
  refine sc_ind (T := T) (n := n) (a := a) (z := z) (P := fun p => p ≤ n → sc T n a z p ≤ n) (fun p h ih hp => ?_) (fun p h hp => ?_) p hp
  · rw [sc_yes h]; exact ih (at_lt h)
  · rw [sc_no h]; exact hp
theorem sc_all (p : Nat) : ∀ q, p ≤ q → q < sc T n a z p → atB T n a z q = true := by
  refine sc_ind (T := T) (n := n) (a := a) (z := z) (P := fun p => ∀ q, p ≤ q → q < sc T n a z p → atB T n a z q = true) (fun p h ih q h1 h2 => ?_) (fun p h q h1 h2 => ?_) p
  · rw [sc_yes h] at h2
    by_cases e : q = p
    · rw [e]; exact h
    · exact ih q (by omega) h2
  · rw [sc_no h] at h2; omega
end SC
abbrev sk (T : Nat → Int32) (n p : Nat) : Nat := sc T n 32 32 p
abbrev wl (T : Nat → Int32) (n p : Nat) : Nat := sc T n 97 122 p
/-- how many digits from p on, at most d -/
def dgF (T : Nat → Int32) (n : Nat) : Nat → Nat → Nat
  | 0, _ => 0
  | d + 1, p => if atB T n 48 57 p = true then dgF T n d (p + 1) + 1 else 0
theorem dg_le (T : Nat → Int32) (n : Nat) : ∀ d p, dgF T n d p ≤ d ∧ (p ≤ n → p + dgF T n d p ≤ n) := by
  intro d
  induction d with
  | zero => intro p; exact ⟨Nat.le_refl _, fun h => h⟩
  | succ d ih =>
    intro p
    rw [show dgF T n (d + 1) p = if atB T n 48 57 p = true then dgF T n d (p + 1) + 1 else 0 from rfl]
    by_cases h : atB T n 48 57 p = true
    · rw [if_pos h]
      obtain ⟨h1, h2⟩ := ih (p + 1)
      have := at_lt h
      have := h2 (by omega)
      exact ⟨by omega, fun _ => by omega⟩
    · rw [if_neg h]
      exact ⟨by omega, fun h => h⟩
/-- the number that d digits from p on write -/
def vlF (T : Nat → Int32) : Nat → Nat → Int32
  | 0, _ => 0
  | d + 1, p => 10 * vlF T d p + T (p + d) - 48
/-- a number: its end (or where it is wrong), whether it is one, its value -/
def nuE (T : Nat → Int32) (n r : Nat) : Nat := if atB T n 32 32 r = true then sk T n r + dgF T n 5 (sk T n r) else r
def nuO (T : Nat → Int32) (n r : Nat) : Bool := atB T n 32 32 r && (decide (0 < dgF T n 5 (sk T n r)) && !(atB T n 48 57 (sk T n r + dgF T n 5 (sk T n r))))
def nuV (T : Nat → Int32) (n r : Nat) : Int32 := vlF T (dgF T n 5 (sk T n r)) (sk T n r)
/-- d numbers and the semicolon behind them -/
def nsF (T : Nat → Int32) (n : Nat) : Nat → Nat → Bool × Nat
  | 0, r => (atB T n 59 59 (sk T n r), if atB T n 59 59 (sk T n r) = true then sk T n (sk T n r + 1) else sk T n r)
  | d + 1, r => if nuO T n r = true then nsF T n d (nuE T n r) else (false, nuE T n r)
def nuK (T : Nat → Int32) (n : Nat) : Nat → Nat → Nat
  | 0, r => r
  | k + 1, r => nuK T n k (nuE T n r)
theorem nu_le {T : Nat → Int32} {n r : Nat} (h : r ≤ n) : nuE T n r ≤ n ∧ r ≤ nuE T n r := by
  unfold nuE
  have h1 : r ≤ sk T n r := sc_ge (T := T) (n := n) (a := 32) (z := 32) r
  have h2 : sk T n r ≤ n := sc_le (T := T) (n := n) (a := 32) (z := 32) h
  have h3 := (dg_le T n 5 (sk T n r)).2 h2
  by_cases c : atB T n 32 32 r = true
  · rw [if_pos c]; omega
  · rw [if_neg c]; omega
theorem nu_two {T : Nat → Int32} {n r : Nat} (h : nuO T n r = true) : r + 2 ≤ nuE T n r ∧ nuE T n r ≤ n ∧ ¬ atB T n 48 57 (nuE T n r) = true := by
  unfold nuO at h
  unfold nuE
  simp only [Bool.and_eq_true, decide_eq_true_eq, Bool.not_eq_true'] at h
  obtain ⟨c, h1, h2⟩ := h
  rw [if_pos c]
  have h3 := sc_ge (T := T) (n := n) (a := 32) (z := 32) (r + 1)
  rw [← sc_yes c] at h3
  have h3 : r + 1 ≤ sk T n r := h3
  have h4 : sk T n r ≤ n := sc_le (T := T) (n := n) (a := 32) (z := 32) (show r ≤ n by have := at_lt c; omega)
  have h5 := (dg_le T n 5 (sk T n r)).2 h4
  exact ⟨by omega, h5, by rw [h2]; decide⟩
/-- the words -/
def pkF (T : Nat → Int32) (p : Nat) : Nat → Nat
  | 0 => 0
  | d + 1 => pkF T p d * 256 + (T (p + d)).toInt.toNat
def pkW (c : Nat → Nat) : Nat → Nat
  | 0 => 0
  | d + 1 => pkW c d * 256 + c d
theorem pk_iff {T : Nat → Int32} {p : Nat} {c : Nat → Nat} : ∀ (d L : Nat), (∀ j, j < d → rg (T (p + j)) 97 122) → (∀ j, j < L → 97 ≤ c j ∧ c j ≤ 122) → (pkF T p d = pkW c L ↔ d = L ∧ ∀ j, j < d → T (p + j) = nI (c j)) := by
  intro d
  induction d with
  | zero =>
    intro L h1 h2
    cases L with
    | zero => exact ⟨fun _ => ⟨rfl, fun j hj => absurd hj (Nat.not_lt_zero j)⟩, fun _ => rfl⟩
    | succ L =>
      have := h2 L (by omega)
      exact ⟨fun h => by have h : 0 = pkW c L * 256 + c L := h; omega, fun h => by omega⟩
  | succ d ih =>
    intro L h1 h2
    have t1 := h1 d (by omega)
    have t2 := t1.1
    have t3 := t1.2
    cases L with
    | zero => exact ⟨fun h => by have h : pkF T p d * 256 + (T (p + d)).toInt.toNat = 0 := h; omega, fun h => by omega⟩
    | succ L =>
      have c1 := h2 L (by omega)
      have e := ih L (fun j hj => h1 j (by omega)) (fun j hj => h2 j (by omega))
      constructor
      · intro h
        have h : pkF T p d * 256 + (T (p + d)).toInt.toNat = pkW c L * 256 + c L := h
        obtain ⟨e1, e2⟩ := e.mp (by omega)
        subst e1
        refine ⟨rfl, fun j hj => ?_⟩
        by_cases ej : j = d
        · rw [ej, pu_nI (x := T (p + d)) (by omega)]
          congr 1
          omega
        · exact e2 j (by omega)
      · intro ⟨h3, h4⟩
        have h3 : d = L := by omega
        subst h3
        have e3 := e.mpr ⟨rfl, fun j hj => h4 j (by omega)⟩
        show pkF T p d * 256 + (T (p + d)).toInt.toNat = pkW c d * 256 + c d
        have e4 : (T (p + d)).toInt.toNat = c d := by
          rw [h4 d (by omega), nI_toInt (by omega)]
          omega
        rw [e3, e4]
theorem pkF_lt {T : Nat → Int32} {p : Nat} : ∀ d, (∀ j, j < d → rg (T (p + j)) 97 122) → pkF T p d < 256 ^ d := by
  intro d
  induction d with
  | zero => intro _; exact Nat.one_pos
  | succ d ih =>
    intro h
    have h1 := ih (fun j hj => h j (by omega))
    have h2 := h d (by omega)
    have h3 := h2.2
    show pkF T p d * 256 + (T (p + d)).toInt.toNat < 256 ^ (d + 1)
    rw [Nat.pow_succ]
    omega
abbrev wcN : List (List Nat) := [[102, 105, 101, 108, 100], [109, 105, 99], [119, 97, 108, 108], [115, 99, 114, 101, 101, 110], [115, 101, 116], [99, 108, 105, 99, 107], [107, 110, 111, 119, 110]]
def wcH (i j : Nat) : Nat := (wcN.getD i []).getD j 0
def wcC (i : Nat) : Nat := pkW (wcH i) (cmL.getD i 0)
def enM (i : Nat) : Nat := ([2, 2, 3, 4, 2, 3, 3] : List Nat).getD i 0
theorem wc_ok : ∀ i, i < 7 → (∀ j, j < cmL.getD i 0 → (97 ≤ wcH i j ∧ wcH i j ≤ 122) ∧ nI (wcH i j) = (cmB.getD i []).getD j 0) ∧ (3 ≤ cmL.getD i 0 ∧ cmL.getD i 0 ≤ 6) ∧ wcC i < 2 ^ 48 ∧ (2 ≤ enM i ∧ enM i ≤ 4) ∧ 8 ≤ cmL.getD i 0 + 2 * enM i + 1 ∧ enN (some i) = nI (enM i) := by decide +kernel
theorem wc_lits : wcC 0 = 439854918756 ∧ wcC 1 = 7170403 ∧ wcC 2 = 2002873452 ∧ wcC 3 = 126870958204270 ∧ wcC 4 = 7562612 ∧ wcC 5 = 427020608363 ∧ wcC 6 = 461414299502 := by decide +kernel
theorem many_some : ∀ i, i < 7 → pX12_manyOf (lN (wcC i)) = nI (enM i) ∧ ¬ pX12_manyOf (lN (wcC i)) = -1000000000 := by decide +kernel
theorem lN_eqB {a b : Nat} (ha : a < 2 ^ 63) (hb : b < 2 ^ 63) : lN a = lN b ↔ a = b := by
  constructor
  · intro h
    have := congrArg Int64.toInt h
    rw [pk_lT ha, pk_lT hb] at this
    omega
  · intro h; rw [h]
theorem many_none {A : Nat} (hA : A < 2 ^ 63) (h : ∀ i, i < 7 → A ≠ wcC i) : pX12_manyOf (lN A) = -1000000000 := by
  obtain ⟨l0, l1, l2, l3, l4, l5, l6⟩ := wc_lits
  have g : ∀ (i c : Nat), i < 7 → wcC i = c → c < 2 ^ 63 → ¬ lN A = lN c := fun i c hi e hc q => h i hi (by rw [e]; exact (lN_eqB hA hc).mp q)
  unfold pX12_manyOf
  rw [if_neg (show ¬ lN A = 439854918756 from g 0 _ (by omega) l0 (by decide)), if_neg (show ¬ lN A = 7170403 from g 1 _ (by omega) l1 (by decide)), if_neg (show ¬ lN A = 7562612 from g 4 _ (by omega) l4 (by decide)), if_neg (show ¬ lN A = 2002873452 from g 2 _ (by omega) l2 (by decide)), if_neg (show ¬ lN A = 427020608363 from g 5 _ (by omega) l5 (by decide)), if_neg (show ¬ lN A = 461414299502 from g 6 _ (by omega) l6 (by decide)), if_neg (show ¬ lN A = 126870958204270 from g 3 _ (by omega) l3 (by decide))]
/-- a constant's word stands from p to before q -/
def wIs (T : Nat → Int32) (i p q : Nat) : Prop := q - p = cmL.getD i 0 ∧ ∀ j, j < cmL.getD i 0 → T (p + j) = (cmB.getD i []).getD j 0
theorem byteAt_eq (x : TS) {p : Nat} (h : p < 150) : pX5_byteAt x (nI p) = x.2 p := by
  unfold pX5_byteAt
  have c : pX11_isBetween (nI p) 0 149 = true := by
    rw [in_eq]
    refine (in_iff _ _ _).mpr ⟨?_, ?_⟩
    · rw [nI_toInt (by omega)]; show (0 : Int) ≤ p; omega
    · rw [nI_toInt (by omega)]; show (p : Int) ≤ 149; omega
  rw [if_pos c, nI_clamp (by omega)]
theorem wd_iff (x : TS) {i p : Nat} : ∀ (d j : Nat), p + (j + d) ≤ 150 → (wdF x i (nI p) d j = true ↔ ∀ k, j ≤ k → k < j + d → x.2 (p + k) = (cmB.getD i []).getD k 0) := by
  intro d
  induction d with
  | zero => intro j _; exact ⟨fun _ k h1 h2 => by omega, fun _ => rfl⟩
  | succ d ih =>
    intro j hj
    have e : wdF x i (nI p) (d + 1) j = if (cmB.getD i []).getD j 0 = pX5_byteAt x (nI p + nI j) then wdF x i (nI p) d (j + 1) else false := rfl
    rw [e, nI_add, byteAt_eq x (by omega)]
    by_cases c : (cmB.getD i []).getD j 0 = x.2 (p + j)
    · rw [if_pos c, ih (j + 1) (by omega)]
      constructor
      · intro h k h1 h2
        by_cases ek : k = j
        · rw [ek, c]
        · exact h k (by omega) (by omega)
      · intro h k h1 h2
        exact h k (by omega) (by omega)
    · rw [if_neg c]
      exact ⟨fun h => absurd h (by decide), fun h => absurd (h j (Nat.le_refl _) (by omega)).symm c⟩
theorem isw_iff (x : TS) {i p q : Nat} (hi : i < 7) (hpq : p ≤ q) (hq : q ≤ 150) : pX5_isWord x i (nI p) (nI q) = true ↔ wIs x.2 i p q := by
  obtain ⟨-, h6, -⟩ := wc_ok i hi
  unfold pX5_isWord wIs
  rw [pk_sub hpq]
  by_cases c : cmL.getD i 0 = q - p
  · rw [if_pos (by rw [c]), wd_iff x _ _ (by omega)]
    exact ⟨fun h => ⟨c.symm, fun j hj => h j (by omega) (by omega)⟩, fun h k h1 h2 => h.2 k (by omega)⟩
  · rw [if_neg (fun e => c ((nI_eq (by omega) (by omega)).mp e))]
    exact ⟨fun h => absurd h (by decide), fun h => absurd h.1.symm c⟩
theorem ca_some (x : TS) {a b : Int32} : ∀ (d i k : Nat), caF x a b d i = some k → i ≤ k ∧ k < i + d ∧ pX5_isWord x k a b = true := by
  intro d
  induction d with
  | zero => intro i k h; cases h
  | succ d ih =>
    intro i k h
    have e : caF x a b (d + 1) i = if pX5_isWord x i a b = true then some i else caF x a b d (i + 1) := rfl
    rw [e] at h
    by_cases c : pX5_isWord x i a b = true
    · rw [if_pos c] at h
      cases h
      exact ⟨Nat.le_refl _, by omega, c⟩
    · rw [if_neg c] at h
      obtain ⟨h1, h2, h3⟩ := ih _ _ h
      exact ⟨by omega, by omega, h3⟩
theorem ca_none (x : TS) {a b : Int32} : ∀ (d i : Nat), caF x a b d i = none → ∀ k, i ≤ k → k < i + d → ¬ pX5_isWord x k a b = true := by
  intro d
  induction d with
  | zero => intro i h k h1 h2; omega
  | succ d ih =>
    intro i h k h1 h2
    have e : caF x a b (d + 1) i = if pX5_isWord x i a b = true then some i else caF x a b d (i + 1) := rfl
    rw [e] at h
    by_cases c : pX5_isWord x i a b = true
    · rw [if_pos c] at h; cases h
    · rw [if_neg c] at h
      by_cases ek : k = i
      · rw [ek]; exact c
      · exact ih _ h k (by omega) (by omega)
/-- the command whose word begins at p: which, is it right, where it ends or is wrong -/
noncomputable def coI (x : TS) (n p : Nat) : Option Nat := pX5_commandAt x (nI p) (nI (wl x.2 n p))
noncomputable def coR (x : TS) (n p : Nat) : Bool × Nat := match coI x n p with
  | none => (false, p)
  | some i => nsF x.2 n (enM i) (wl x.2 n p)
theorem pco_some {x : TS} {n p i : Nat} (hn : n ≤ 150) (hp : p ≤ n) (h : coI x n p = some i) : i < 7 ∧ wIs x.2 i p (wl x.2 n p) := by
  obtain ⟨h1, h2, h3⟩ := ca_some x 7 0 i h
  have g1 := sc_ge (T := x.2) (n := n) (a := 97) (z := 122) p
  have g2 := sc_le (T := x.2) (n := n) (a := 97) (z := 122) hp
  exact ⟨by omega, (isw_iff x (by omega) g1 (by omega)).mp h3⟩
theorem pco_none {x : TS} {n p : Nat} (hn : n ≤ 150) (hp : p ≤ n) (h : coI x n p = none) : ∀ i, i < 7 → ¬ wIs x.2 i p (wl x.2 n p) := by
  intro i hi hw
  have g1 := sc_ge (T := x.2) (n := n) (a := 97) (z := 122) p
  have g2 := sc_le (T := x.2) (n := n) (a := 97) (z := 122) hp
  exact ca_none x 7 0 h i (Nat.zero_le _) (by omega) ((isw_iff x hi g1 (by omega)).mpr hw)
theorem wIs_pk {T : Nat → Int32} {i p q : Nat} (hi : i < 7) (hl : ∀ j, j < q - p → rg (T (p + j)) 97 122) : pkF T p (q - p) = wcC i ↔ wIs T i p q := by
  obtain ⟨h1, h2, -⟩ := wc_ok i hi
  unfold wcC wIs
  rw [pk_iff (q - p) (cmL.getD i 0) hl (fun j hj => (h1 j hj).1)]
  constructor
  · intro ⟨a1, a2⟩
    exact ⟨a1, fun j hj => by rw [a2 j (by omega)]; exact (h1 j hj).2⟩
  · intro ⟨a1, a2⟩
    exact ⟨a1, fun j hj => by rw [a2 j (by omega)]; exact ((h1 j (by omega)).2).symm⟩
/-- THE REFERENCE'S READER at p -/
def MT (x : TS) (n : Nat) (m : MS) (p : Nat) : Prop := m.1 1 = nI n ∧ m.1 7 = nI p ∧ ∀ q, q < n → m.2.2 3 q = x.2 q
def sameP (m m' : MS) : Prop := (∀ k, k ≠ 7 → m'.1 k = m.1 k) ∧ (∀ k, k ≠ 12 → m'.2.2 k = m.2.2 k)
theorem sameP.rfl' (m : MS) : sameP m m := ⟨fun _ _ => rfl, fun _ _ => rfl⟩
theorem sameP.trans {a b c : MS} (h : sameP a b) (g : sameP b c) : sameP a c := ⟨fun k hk => (g.1 k hk).trans (h.1 k hk), fun k hk => (g.2 k hk).trans (h.2 k hk)⟩
theorem sameP_i7 (m : MS) (v : Int32) : sameP m (msi m 7 v) := ⟨fun k hk => upd_ne _ _ hk, fun _ _ => rfl⟩
theorem sameP_j0 (m : MS) (v : Int64) : sameP m (msj m 0 v) := ⟨fun _ _ => rfl, fun _ _ => rfl⟩
theorem sameP_a12 (m : MS) (f : Nat → Int32) : sameP m (msa m 12 f) := ⟨fun _ _ => rfl, fun k hk => updA_ne _ _ hk⟩
section MREAD
variable {x : TS} {n p : Nat} {m m' : MS}
theorem MT.set (h : MT x n m p) {q : Nat} (m2 : MS) (e1 : m2.1 = upd m.1 7 (nI q)) (e3 : m2.2.2 3 = m.2.2 3) : MT x n m2 q := by
  unfold MT
  rw [e1, e3]
  exact ⟨(upd_ne _ _ (show (1 : Nat) ≠ 7 by decide)).trans h.1, upd_eq _ _ _, h.2.2⟩
theorem MT.mv (h : MT x n m p) {q : Nat} : MT x n (msi m 7 (nI q)) q := h.set _ rfl rfl
theorem MT.to (h : MT x n m p) (g : sameP m m') {q : Nat} (e : m'.1 7 = nI q) : MT x n m' q := ⟨(g.1 1 (by decide)).trans h.1, e, fun q hq => by rw [g.2 3 (by decide)]; exact h.2.2 q hq⟩
theorem isAt_eq (h : MT x n m p) (hn : n ≤ 150) (hp : p ≤ n) (a z : Int32) : pX12_isAt m a z = atB x.2 n a z p ∧ kX12_isAt m a z := by
  unfold pX12_isAt kX12_isAt atB
  rw [h.1, h.2.1]
  by_cases c : p < n
  · rw [if_neg (nI_ge c (by omega)), if_neg (nI_ge c (by omega)), nI_clamp (by omega), h.2.2 p c]
    refine ⟨?_, vp_in_n (by omega) (by omega)⟩
    simp only [c, decide_true, Bool.true_and]
    by_cases c2 : pX12_in (x.2 p) a z = true
    · rw [if_pos c2, c2]
    · rw [if_neg c2, bool_no c2]
  · rw [if_pos (nI_le (by omega) (by omega)), if_pos (nI_le (by omega) (by omega))]
    exact ⟨by simp [c], trivial⟩
theorem skips_L (hn : n ≤ 150) (p : Nat) : p ≤ n → ∀ (f : Nat), n - p < f → ∀ m : MS, MT x n m p → ∃ m', pX12_skips_L0 f m = m' ∧ kX12_skips_L0 f m ∧ MT x n m' (sk x.2 n p) ∧ sameP m m' ∧ m'.2 = m.2 := by
  refine sc_ind (T := x.2) (n := n) (a := 32) (z := 32) (P := fun p => p ≤ n → ∀ (f : Nat), n - p < f → ∀ m : MS, MT x n m p → ∃ m', pX12_skips_L0 f m = m' ∧ kX12_skips_L0 f m ∧ MT x n m' (sk x.2 n p) ∧ sameP m m' ∧ m'.2 = m.2) (fun p h ih hp f hf m hm => ?_) (fun p h hp f hf m hm => ?_) p
  · obtain ⟨f, rfl⟩ : ∃ g, f = g + 1 := ⟨f - 1, by omega⟩
    have hl := at_lt h
    obtain ⟨a1, a2⟩ := isAt_eq hm hn hp 32 32
    obtain ⟨m', e1, e2, e3, e4, e5⟩ := ih (by omega) f (by omega) (msi m 7 (nI (p + 1))) hm.mv
    refine ⟨m', ?_, ?_, by rw [show sk x.2 n p = sk x.2 n (p + 1) from sc_yes h]; exact e3, (sameP_i7 m _).trans e4, e5⟩
    · show bX12_skips_L0 _ _ = _
      unfold bX12_skips_L0
      rw [a1, if_pos h]
      simp only [lt]
      rw [hm.2.1, nI_1]
      exact e1
    · show kbX12_skips_L0 _ _
      unfold kbX12_skips_L0
      rw [a1, if_pos h]
      simp only [lt]
      rw [hm.2.1, nI_1]
      exact ⟨a2, e2⟩
  · obtain ⟨f, rfl⟩ : ∃ g, f = g + 1 := ⟨f - 1, by omega⟩
    obtain ⟨a1, a2⟩ := isAt_eq hm hn hp 32 32
    refine ⟨m, ?_, ?_, by rw [show sk x.2 n p = p from sc_no h]; exact hm, sameP.rfl' m, rfl⟩
    · show bX12_skips_L0 _ _ = _
      unfold bX12_skips_L0
      rw [a1, if_neg h]
    · show kbX12_skips_L0 _ _
      unfold kbX12_skips_L0
      rw [a1, if_neg h]
      exact ⟨a2, trivial⟩
theorem skips_eq (hn : n ≤ 150) (hp : p ≤ n) (hm : MT x n m p) : ∃ m', pX12_skips m = m' ∧ kX12_skips m ∧ MT x n m' (sk x.2 n p) ∧ sameP m m' ∧ m'.2 = m.2 := skips_L hn p hp fu (by have := fu_ge; omega) m hm
theorem isWord_L (hn : n ≤ 150) {p : Nat} (q : Nat) : p ≤ q → q ≤ n → (∀ j, p ≤ j → j < q → atB x.2 n 97 122 j = true) → ∀ (f : Nat), n - q < f → ∀ m : MS, MT x n m q → m.2.1 0 = (if q - p ≤ 6 then lN (pkF x.2 p (q - p)) else 0) → wl x.2 n q = wl x.2 n p →
    ∃ m', pX12_isWord_L10 f (nI p) m = ((coI x n p).isSome, m') ∧ kX12_isWord_L10 f (nI p) m ∧ sameP m m' ∧ m'.2.2 = m.2.2 ∧ MT x n m' (if (coI x n p).isSome = true then wl x.2 n p else p) ∧ ∀ i, coI x n p = some i → m'.2.1 0 = lN (wcC i) := by
  refine sc_ind (T := x.2) (n := n) (a := 97) (z := 122) (P := fun q => p ≤ q → q ≤ n → (∀ j, p ≤ j → j < q → atB x.2 n 97 122 j = true) → ∀ (f : Nat), n - q < f → ∀ m : MS, MT x n m q → m.2.1 0 = (if q - p ≤ 6 then lN (pkF x.2 p (q - p)) else 0) → wl x.2 n q = wl x.2 n p →
    ∃ m', pX12_isWord_L10 f (nI p) m = ((coI x n p).isSome, m') ∧ kX12_isWord_L10 f (nI p) m ∧ sameP m m' ∧ m'.2.2 = m.2.2 ∧ MT x n m' (if (coI x n p).isSome = true then wl x.2 n p else p) ∧ ∀ i, coI x n p = some i → m'.2.1 0 = lN (wcC i)) (fun q h ih hpq hq hall f hf m hm hw he => ?_) (fun q h hpq hq hall f hf m hm hw he => ?_) q
  · obtain ⟨f, rfl⟩ : ∃ g, f = g + 1 := ⟨f - 1, by omega⟩
    have hl := at_lt h
    obtain ⟨a1, a2⟩ := isAt_eq hm hn hq 97 122
    have hsub : nI q - nI p = nI (q - p) := pk_sub hpq
    have hall' : ∀ j, p ≤ j → j < q + 1 → atB x.2 n 97 122 j = true := fun j h1 h2 => by
      by_cases e : j = q
      · rw [e]; exact h
      · exact hall j h1 (by omega)
    have he' : wl x.2 n (q + 1) = wl x.2 n p := (sc_yes h).symm.trans he
    have V : vp_in (nI q) 150 := vp_in_n (by omega) (by omega)
    have hrg : ∀ j, j < q - p → rg (x.2 (p + j)) 97 122 := fun j hj => at_in2 (hall (p + j) (by omega) (by omega))
    have htq : rg (x.2 q) 97 122 := at_in2 h
    have t1 := htq.1
    have t2 := htq.2
    by_cases c6 : 6 ≤ q - p
    · have c6i : (6 : Int32) ≤ nI (q - p) := nI_le (a := 6) c6 (by omega)
      obtain ⟨m', e1, e2, e3, e4, e5, e6⟩ := ih (by omega) (by omega) hall' f (by omega) (msi (msj m 0 0) 7 (nI (q + 1))) (hm.set _ rfl rfl) (by rw [if_neg (by omega)]; rfl) he'
      refine ⟨m', ?_, ?_, ((sameP_j0 m 0).trans (sameP_i7 _ _)).trans e3, e4, e5, e6⟩
      · show bX12_isWord_L10 _ _ _ = _
        unfold bX12_isWord_L10 pX12_isWord_L55
        rw [a1, if_pos h, hm.2.1, hsub, if_pos c6i]
        simp only [lt]
        rw [show (msj m 0 0).1 7 = nI q from hm.2.1, nI_1]
        exact e1
      · show kbX12_isWord_L10 _ _ _
        unfold kbX12_isWord_L10 kX12_isWord_L55
        rw [a1, if_pos h, hm.2.1, hsub, if_pos c6i]
        simp only [lt]
        rw [show (msj m 0 0).1 7 = nI q from hm.2.1, nI_1]
        exact ⟨a2, e2⟩
    · have c6i : ¬ (6 : Int32) ≤ nI (q - p) := nI_ge (b := 6) (by omega) (by omega)
      have hw' : m.2.1 0 = lN (pkF x.2 p (q - p)) := by rw [hw, if_pos (by omega)]
      have hb := pkF_lt (T := x.2) (p := p) (q - p) hrg
      have hb2 : 256 ^ (q - p) ≤ 256 ^ 5 := Nat.pow_le_pow_right (by omega) (by omega)
      have hpk : (m.2.1 0 <<< ((8 : Int32).toInt64 &&& 63)) ||| (m.2.2 3 (nI q).toNatClampNeg).toInt64 = lN (pkF x.2 p (q + 1 - p)) := by
        rw [hw', nI_clamp (by omega), hm.2.2 q hl, pu_nI (x := x.2 q) (by omega), ps_pack (by omega) (by omega), show q + 1 - p = (q - p) + 1 by omega]
        show lN _ = lN (pkF x.2 p (q - p) * 256 + (x.2 (p + (q - p))).toInt.toNat)
        rw [show p + (q - p) = q by omega]
      obtain ⟨m', e1, e2, e3, e4, e5, e6⟩ := ih (by omega) (by omega) hall' f (by omega) (msi (msj m 0 (lN (pkF x.2 p (q + 1 - p)))) 7 (nI (q + 1))) (hm.set _ rfl rfl) (by rw [if_pos (by omega)]; rfl) he'
      refine ⟨m', ?_, ?_, ((sameP_j0 m _).trans (sameP_i7 _ _)).trans e3, e4, e5, e6⟩
      · show bX12_isWord_L10 _ _ _ = _
        unfold bX12_isWord_L10 pX12_isWord_L55
        rw [a1, if_pos h, hm.2.1, hsub, if_neg c6i, hpk]
        simp only [lt]
        rw [show (msj m 0 (lN (pkF x.2 p (q + 1 - p)))).1 7 = nI q from hm.2.1, nI_1]
        exact e1
      · show kbX12_isWord_L10 _ _ _
        unfold kbX12_isWord_L10 kX12_isWord_L55
        rw [a1, if_pos h, hm.2.1, hsub, if_neg c6i, hpk]
        simp only [lt]
        rw [show (msj m 0 (lN (pkF x.2 p (q + 1 - p)))).1 7 = nI q from hm.2.1, nI_1]
        exact ⟨a2, V, e2⟩
  · obtain ⟨f, rfl⟩ : ∃ g, f = g + 1 := ⟨f - 1, by omega⟩
    obtain ⟨a1, a2⟩ := isAt_eq hm hn hq 97 122
    have hsub : nI q - nI p = nI (q - p) := pk_sub hpq
    have hwq : wl x.2 n p = q := he.symm.trans (sc_no h)
    have hrg : ∀ j, j < q - p → rg (x.2 (p + j)) 97 122 := fun j hj => at_in2 (hall (p + j) (by omega) (by omega))
    have hk : kX12_isWord_L10 (f + 1) (nI p) m := by
      show kbX12_isWord_L10 _ _ _
      unfold kbX12_isWord_L10
      rw [a1, if_neg h]
      exact ⟨a2, trivial⟩
    have hfail : ∀ hc : coI x n p = none, pX12_isWord_L94 (nI p) m = ((coI x n p).isSome, msi m 7 (nI p)) ∧ sameP m (msi m 7 (nI p)) ∧ (msi m 7 (nI p)).2.2 = m.2.2 ∧ MT x n (msi m 7 (nI p)) (if (coI x n p).isSome = true then wl x.2 n p else p) ∧ ∀ i, coI x n p = some i → (msi m 7 (nI p)).2.1 0 = lN (wcC i) := fun hc => by
      rw [hc]
      exact ⟨rfl, sameP_i7 m _, rfl, hm.mv, fun i hi => by cases hi⟩
    have goE : pX12_isWord_L10 (f + 1) (nI p) m = if (6 : Int32) < nI (q - p) then pX12_isWord_L94 (nI p) m else if pX12_manyOf (m.2.1 0) = -1000000000 then pX12_isWord_L94 (nI p) m else (true, m) := by
      show bX12_isWord_L10 _ _ _ = _
      unfold bX12_isWord_L10
      rw [a1, if_neg h, hm.2.1, hsub]
    by_cases c6 : 6 < q - p
    · have c6i : (6 : Int32) < nI (q - p) := nI_lt (a := 6) c6 (by omega)
      have hc : coI x n p = none := by
        cases hc : coI x n p with
        | none => rfl
        | some i =>
          obtain ⟨i1, i2, -⟩ := pco_some hn (by omega) hc
          have := (wc_ok i i1).2.1
          rw [hwq] at i2
          omega
      obtain ⟨b1, b2, b3, b4, b5⟩ := hfail hc
      exact ⟨_, by rw [goE, if_pos c6i]; exact b1, hk, b2, b3, b4, b5⟩
    · have c6i : ¬ (6 : Int32) < nI (q - p) := nI_nlt (a := 6) (by omega) (by omega)
      have hb := pkF_lt (T := x.2) (p := p) (q - p) hrg
      have hb2 : 256 ^ (q - p) ≤ 256 ^ 6 := Nat.pow_le_pow_right (by omega) (by omega)
      have hw' : m.2.1 0 = lN (pkF x.2 p (q - p)) := by rw [hw, if_pos (by omega)]
      cases hc : coI x n p with
      | none =>
        have g := pco_none hn (by omega) hc
        rw [hwq] at g
        have hmn : pX12_manyOf (m.2.1 0) = -1000000000 := by
          rw [hw']
          exact many_none (by omega) (fun i hi e => g i hi ((wIs_pk hi hrg).mp e))
        obtain ⟨b1, b2, b3, b4, b5⟩ := hfail hc
        rw [hc] at b1 b4 b5
        exact ⟨_, by rw [goE, if_neg c6i, if_pos hmn]; exact b1, hk, b2, b3, b4, b5⟩
      | some i =>
        obtain ⟨i1, g⟩ := pco_some hn (by omega) hc
        rw [hwq] at g
        have e := (wIs_pk i1 hrg).mpr g
        have hmn : ¬ pX12_manyOf (m.2.1 0) = -1000000000 := by
          rw [hw', e]
          exact (many_some i i1).2
        refine ⟨m, by rw [goE, if_neg c6i, if_neg hmn]; rfl, hk, sameP.rfl' m, rfl, ?_, fun k hk => ?_⟩
        · show MT x n m (wl x.2 n p)
          rw [hwq]; exact hm
        · cases hk
          rw [hw', e]
theorem isWord_eq (hn : n ≤ 150) (hp : p ≤ n) (hm : MT x n m p) : ∃ m', pX12_isWord m = ((coI x n p).isSome, m') ∧ kX12_isWord m ∧ sameP m m' ∧ m'.2.2 = m.2.2 ∧ MT x n m' (if (coI x n p).isSome = true then wl x.2 n p else p) ∧ ∀ i, coI x n p = some i → m'.2.1 0 = lN (wcC i) := by
  obtain ⟨m', e1, e2, e3, e4, e5, e6⟩ := isWord_L (x := x) hn (p := p) p (Nat.le_refl _) hp (fun j h1 h2 => by omega) fu (by have := fu_ge; omega) (msj m 0 0) ⟨hm.1, hm.2.1, hm.2.2⟩ (by rw [Nat.sub_self, if_pos (by omega)]; rfl) rfl
  refine ⟨m', ?_, ?_, (sameP_j0 m 0).trans e3, e4, e5, e6⟩
  · unfold pX12_isWord
    simp only [lt]
    rw [hm.2.1]
    exact e1
  · unfold kX12_isWord
    simp only [lt]
    rw [hm.2.1]
    exact e2
theorem isNum_L (hn : n ≤ 150) {k r : Nat} (hk : k < 4) : ∀ (d j f : Nat), j + d = 5 → d < f → r + j ≤ n → ∀ m : MS, MT x n m (r + j) → m.2.2 12 k = vlF x.2 j r →
    ∃ m', pX12_isNumber_L29 f (nI k) (nI r) m = (decide (0 < j + dgF x.2 n d (r + j)) && !(atB x.2 n 48 57 (r + j + dgF x.2 n d (r + j))), m') ∧ kX12_isNumber_L29 f (nI k) (nI r) m ∧ sameP m m' ∧ m'.2.1 = m.2.1 ∧ MT x n m' (r + j + dgF x.2 n d (r + j)) ∧ m'.2.2 12 k = vlF x.2 (j + dgF x.2 n d (r + j)) r ∧ ∀ i, i ≠ k → m'.2.2 12 i = m.2.2 12 i := by
  intro d
  induction d with
  | zero =>
    intro j f hj hf hr m hm hv
    obtain ⟨f, rfl⟩ : ∃ g, f = g + 1 := ⟨f - 1, by omega⟩
    have hj : j = 5 := by omega
    subst hj
    obtain ⟨a1, a2⟩ := isAt_eq hm hn hr 48 57
    have hsub : nI (r + 5) - nI r = nI 5 := by rw [pk_sub (by omega)]; congr 1; omega
    refine ⟨m, ?_, ?_, sameP.rfl' m, rfl, hm, hv, fun _ _ => rfl⟩
    · show bX12_isNumber_L29 _ _ _ _ = _
      unfold bX12_isNumber_L29 pX12_isNumber_L91
      rw [hm.2.1, hsub, if_pos (show (5 : Int32) ≤ nI 5 from nI_le (a := 5) (by omega) (by omega)), if_neg (nI_ge (show r < r + 5 by omega) (by omega)), a1]
      show _ = (_ && !(atB x.2 n 48 57 (r + 5)), m)
      by_cases c : atB x.2 n 48 57 (r + 5) = true
      · rw [if_pos c, c]; rfl
      · rw [if_neg c, bool_no c]; rfl
    · show kbX12_isNumber_L29 _ _ _ _
      unfold kbX12_isNumber_L29 kX12_isNumber_L91
      rw [hm.2.1, hsub, if_pos (show (5 : Int32) ≤ nI 5 from nI_le (a := 5) (by omega) (by omega)), if_neg (nI_ge (show r < r + 5 by omega) (by omega))]
      exact a2
  | succ d ih =>
    intro j f hj hf hr m hm hv
    obtain ⟨f, rfl⟩ : ∃ g, f = g + 1 := ⟨f - 1, by omega⟩
    obtain ⟨a1, a2⟩ := isAt_eq hm hn hr 48 57
    have hsub : nI (r + j) - nI r = nI j := by rw [pk_sub (by omega)]; congr 1; omega
    have h5 : ¬ (5 : Int32) ≤ nI j := nI_ge (b := 5) (by omega) (by omega)
    have eD : dgF x.2 n (d + 1) (r + j) = if atB x.2 n 48 57 (r + j) = true then dgF x.2 n d (r + j + 1) + 1 else 0 := rfl
    by_cases c : atB x.2 n 48 57 (r + j) = true
    · have hl := at_lt c
      rw [if_pos c] at eD
      have hval : 10 * m.2.2 12 (nI k).toNatClampNeg + m.2.2 3 (nI (r + j)).toNatClampNeg - 48 = vlF x.2 (j + 1) r := by
        rw [nI_clamp (by omega), nI_clamp (by omega), hv, hm.2.2 _ hl]
        rfl
      have hm2 : MT x n (msi (msa m 12 (upd (m.2.2 12) k (vlF x.2 (j + 1) r))) 7 (nI (r + (j + 1)))) (r + (j + 1)) := hm.set _ rfl (by rw [msi_3, msa_3]; exact updA_ne _ _ (show (3 : Nat) ≠ 12 by decide))
      obtain ⟨m', e1, e2, e3, e4, e5, e6, e7⟩ := ih (j + 1) f (by omega) (by omega) (by omega) _ hm2 (by rw [msi_3, msa_3, updA_eq, upd_eq])
      have ej : r + (j + 1) = r + j + 1 := by omega
      rw [ej] at e1 e5 e6
      refine ⟨m', ?_, ?_, ((sameP_a12 m _).trans (sameP_i7 _ _)).trans e3, e4, ?_, ?_, fun i hi => ?_⟩
      · show bX12_isNumber_L29 _ _ _ _ = _
        unfold bX12_isNumber_L29
        rw [hm.2.1, hsub, if_neg h5, a1, if_pos c, hval, nI_clamp (show k < 2 ^ 31 by omega)]
        simp only [lt]
        rw [show (msa m 12 (upd (m.2.2 12) k (vlF x.2 (j + 1) r))).1 7 = nI (r + j) from hm.2.1, nI_1, eD, show j + (dgF x.2 n d (r + j + 1) + 1) = j + 1 + dgF x.2 n d (r + j + 1) by omega, show r + j + (dgF x.2 n d (r + j + 1) + 1) = r + j + 1 + dgF x.2 n d (r + j + 1) by omega]
        exact e1
      · show kbX12_isNumber_L29 _ _ _ _
        unfold kbX12_isNumber_L29
        rw [hm.2.1, hsub, if_neg h5, a1, if_pos c, hval, nI_clamp (show k < 2 ^ 31 by omega)]
        simp only [lt]
        rw [show (msa m 12 (upd (m.2.2 12) k (vlF x.2 (j + 1) r))).1 7 = nI (r + j) from hm.2.1, nI_1]
        rw [ej] at e2
        exact ⟨a2, vp_in_n (by omega) (by omega), vp_in_n (by omega) (by omega), vp_in_n (by omega) (by omega), e2⟩
      · rw [eD, show r + j + (dgF x.2 n d (r + j + 1) + 1) = r + j + 1 + dgF x.2 n d (r + j + 1) by omega]
        exact e5
      · rw [eD, show j + (dgF x.2 n d (r + j + 1) + 1) = j + 1 + dgF x.2 n d (r + j + 1) by omega]
        exact e6
      · rw [e7 i hi, msi_3, msa_3, updA_eq, upd_ne _ _ hi]
    · rw [if_neg c] at eD
      rw [eD]
      refine ⟨m, ?_, ?_, sameP.rfl' m, rfl, hm, hv, fun _ _ => rfl⟩
      · show bX12_isNumber_L29 _ _ _ _ = _
        unfold bX12_isNumber_L29 pX12_isNumber_L91
        rw [hm.2.1, hsub, if_neg h5, a1, if_neg c]
        by_cases j0 : j = 0
        · subst j0
          rw [if_pos (nI_le (by omega) (by omega))]
          rfl
        · rw [if_neg (nI_ge (show r < r + j by omega) (by omega)), if_neg c]
          simp only [Nat.add_zero, bool_no c]
          have : 0 < j := by omega
          simp [this]
      · show kbX12_isNumber_L29 _ _ _ _
        unfold kbX12_isNumber_L29 kX12_isNumber_L91
        rw [hm.2.1, hsub, if_neg h5, a1, if_neg c]
        refine ⟨a2, ?_⟩
        by_cases j0 : j = 0
        · subst j0
          rw [if_pos (nI_le (by omega) (by omega))]
          trivial
        · rw [if_neg (nI_ge (show r < r + j by omega) (by omega))]
          exact a2
theorem isNum_eq (hn : n ≤ 150) {k r : Nat} (hk : k < 4) (hr : r ≤ n) (hm : MT x n m r) : ∃ m', pX12_isNumber m (nI k) = (nuO x.2 n r, m') ∧ kX12_isNumber m (nI k) ∧ sameP m m' ∧ m'.2.1 = m.2.1 ∧ MT x n m' (nuE x.2 n r) ∧ (nuO x.2 n r = true → m'.2.2 12 k = nuV x.2 n r) ∧ ∀ i, i ≠ k → m'.2.2 12 i = m.2.2 12 i := by
  obtain ⟨a1, a2⟩ := isAt_eq hm hn hr 32 32
  unfold pX12_isNumber kX12_isNumber nuO nuE nuV
  by_cases c : atB x.2 n 32 32 r = true
  · obtain ⟨u, s1, s2, s3, s4, s5⟩ := skips_eq hn hr hm
    have hs := sc_le (T := x.2) (n := n) (a := 32) (z := 32) hr
    have hm2 : MT x n (msa u 12 (upd (u.2.2 12) k 0)) (sk x.2 n r + 0) := s3.to (sameP_a12 u _) s3.2.1
    obtain ⟨m', e1, e2, e3, e4, e5, e6, e7⟩ := isNum_L (x := x) hn (k := k) (r := sk x.2 n r) hk 5 0 fu (by omega) (by have := fu_ge; omega) (by omega) _ hm2 (by rw [msa_3, updA_eq, upd_eq]; rfl)
    simp only [Nat.zero_add, Nat.add_zero] at e1 e5 e6
    rw [a1, if_pos c, if_pos c, s1]
    simp only [lt]
    rw [s3.2.1, nI_clamp (show k < 2 ^ 31 by omega), c, if_pos rfl]
    refine ⟨m', e1, ⟨a2, s2, vp_in_n (by omega) (by omega), e2⟩, (s4.trans (sameP_a12 u _)).trans e3, (by rw [e4, msa_2, s5]), e5, fun _ => e6, fun i hi => ?_⟩
    rw [e7 i hi, msa_3, updA_eq, upd_ne _ _ hi, s5]
  · rw [a1, if_neg c, if_neg c, if_neg c, bool_no c]
    exact ⟨m, rfl, ⟨a2, trivial⟩, sameP.rfl' m, rfl, hm, fun h => (Bool.false_ne_true h).elim, fun _ _ => rfl⟩
theorem isCmd_L (hn : n ≤ 150) : ∀ (d k M f : Nat), k + d = M → M ≤ 4 → d < f → ∀ (r : Nat), r ≤ n → ∀ m : MS, MT x n m r →
    ∃ m', pX12_isCommand_L19 f (nI M) (nI k) m = ((nsF x.2 n d r).1, m') ∧ kX12_isCommand_L19 f (nI M) (nI k) m ∧ sameP m m' ∧ m'.2.1 = m.2.1 ∧ MT x n m' (nsF x.2 n d r).2 ∧ ((nsF x.2 n d r).1 = true → ∀ j, j < d → m'.2.2 12 (k + j) = nuV x.2 n (nuK x.2 n j r)) ∧ ∀ j, j < k → m'.2.2 12 j = m.2.2 12 j := by
  intro d
  induction d with
  | zero =>
    intro k M f hkM hM hf r hr m hm
    obtain ⟨f, rfl⟩ : ∃ g, f = g + 1 := ⟨f - 1, by omega⟩
    have hkM : k = M := by omega
    subst hkM
    obtain ⟨u, s1, s2, s3, s4, s5⟩ := skips_eq hn hr hm
    have hs := sc_le (T := x.2) (n := n) (a := 32) (z := 32) hr
    obtain ⟨a1, a2⟩ := isAt_eq s3 hn hs 59 59
    have hg : nI k ≤ nI k := nI_le (Nat.le_refl _) (by omega)
    by_cases c : atB x.2 n 59 59 (sk x.2 n r) = true
    · have hl := at_lt c
      obtain ⟨u2, g1, g2, g3, g4, g5⟩ := skips_eq (x := x) (n := n) (p := sk x.2 n r + 1) (m := msi u 7 (nI (sk x.2 n r + 1))) hn (by omega) s3.mv
      have en : nsF x.2 n 0 r = (true, sk x.2 n (sk x.2 n r + 1)) := by
        rw [show nsF x.2 n 0 r = (atB x.2 n 59 59 (sk x.2 n r), if atB x.2 n 59 59 (sk x.2 n r) = true then sk x.2 n (sk x.2 n r + 1) else sk x.2 n r) from rfl]
        rw [if_pos c, c]
      rw [en]
      refine ⟨u2, ?_, ?_, (s4.trans (sameP_i7 u _)).trans g4, (congrArg Prod.fst g5).trans (congrArg Prod.fst s5), g3, fun _ j hj => by omega, fun j hj => ?_⟩
      · show bX12_isCommand_L19 _ _ _ _ = _
        unfold bX12_isCommand_L19
        rw [if_pos hg, s1]
        simp only [lt]
        rw [a1, if_pos c, s3.2.1, nI_1, g1]
      · show kbX12_isCommand_L19 _ _ _ _
        unfold kbX12_isCommand_L19
        rw [if_pos hg, s1]
        simp only [lt]
        rw [a1, if_pos c, s3.2.1, nI_1]
        exact ⟨s2, a2, g2⟩
      · rw [g5]
        show u.2.2 12 j = _
        rw [s5]
    · have en : nsF x.2 n 0 r = (false, sk x.2 n r) := by
        rw [show nsF x.2 n 0 r = (atB x.2 n 59 59 (sk x.2 n r), if atB x.2 n 59 59 (sk x.2 n r) = true then sk x.2 n (sk x.2 n r + 1) else sk x.2 n r) from rfl]
        rw [if_neg c, bool_no c]
      rw [en]
      refine ⟨u, ?_, ?_, s4, congrArg Prod.fst s5, s3, fun h => (Bool.false_ne_true h).elim, fun j hj => by rw [s5]⟩
      · show bX12_isCommand_L19 _ _ _ _ = _
        unfold bX12_isCommand_L19
        rw [if_pos hg, s1]
        simp only [lt]
        rw [a1, if_neg c]
      · show kbX12_isCommand_L19 _ _ _ _
        unfold kbX12_isCommand_L19
        rw [if_pos hg, s1]
        simp only [lt]
        rw [a1, if_neg c]
        exact ⟨s2, a2, trivial⟩
  | succ d ih =>
    intro k M f hkM hM hf r hr m hm
    obtain ⟨f, rfl⟩ : ∃ g, f = g + 1 := ⟨f - 1, by omega⟩
    obtain ⟨u, e1, e2, e3, e4, e5, e6, e7⟩ := isNum_eq (k := k) hn (by omega) hr hm
    have hg : ¬ nI M ≤ nI k := nI_ge (by omega) (by omega)
    by_cases c : nuO x.2 n r = true
    · have en : nsF x.2 n (d + 1) r = nsF x.2 n d (nuE x.2 n r) := by
        rw [show nsF x.2 n (d + 1) r = if nuO x.2 n r = true then nsF x.2 n d (nuE x.2 n r) else (false, nuE x.2 n r) from rfl, if_pos c]
      rw [en]
      obtain ⟨m', g1, g2, g3, g4, g5, g6, g7⟩ := ih (k + 1) M f (by omega) hM (by omega) (nuE x.2 n r) (nu_le hr).1 u e5
      refine ⟨m', ?_, ?_, e3.trans g3, g4.trans e4, g5, fun h j hj => ?_, fun j hj => ?_⟩
      · show bX12_isCommand_L19 _ _ _ _ = _
        unfold bX12_isCommand_L19
        rw [if_neg hg, e1]
        simp only [bd, lt]
        rw [if_pos c, nI_1]
        exact g1
      · show kbX12_isCommand_L19 _ _ _ _
        unfold kbX12_isCommand_L19
        rw [if_neg hg, e1]
        simp only [bd, lt]
        rw [if_pos c, nI_1]
        exact ⟨e2, g2⟩
      · cases j with
        | zero =>
          rw [show k + 0 = k from rfl, g7 k (by omega)]
          exact e6 c
        | succ j =>
          rw [show k + (j + 1) = k + 1 + j by omega]
          exact g6 h j (by omega)
      · rw [g7 j (by omega), e7 j (by omega)]
    · have en : nsF x.2 n (d + 1) r = (false, nuE x.2 n r) := by
        rw [show nsF x.2 n (d + 1) r = if nuO x.2 n r = true then nsF x.2 n d (nuE x.2 n r) else (false, nuE x.2 n r) from rfl, if_neg c]
      rw [en]
      refine ⟨u, ?_, ?_, e3, e4, e5, fun h => (Bool.false_ne_true h).elim, fun j hj => e7 j (by omega)⟩
      · show bX12_isCommand_L19 _ _ _ _ = _
        unfold bX12_isCommand_L19
        rw [if_neg hg, e1]
        simp only [bd]
        rw [if_neg c]
      · show kbX12_isCommand_L19 _ _ _ _
        unfold kbX12_isCommand_L19
        rw [if_neg hg, e1]
        simp only [bd]
        rw [if_neg c]
        exact ⟨e2, trivial⟩
/-- a command of the reference at p -/
theorem isCmd_eq (hn : n ≤ 150) (hp : p ≤ n) (hm : MT x n m p) : ∃ m', pX12_isCommand m = ((coR x n p).1, m') ∧ kX12_isCommand m ∧ sameP m m' ∧ MT x n m' (coR x n p).2 ∧ ((coR x n p).1 = true → ∃ i, coI x n p = some i ∧ m'.2.1 0 = lN (wcC i) ∧ ∀ j, j < enM i → m'.2.2 12 j = nuV x.2 n (nuK x.2 n j (wl x.2 n p))) := by
  obtain ⟨u, e1, e2, e3, e4, e5, e6⟩ := isWord_eq hn hp hm
  unfold pX12_isCommand kX12_isCommand coR
  rw [e1]
  simp only [bd]
  cases hc : coI x n p with
  | none =>
    rw [hc] at e5
    exact ⟨u, rfl, ⟨e2, trivial⟩, e3, e5, fun h => (Bool.false_ne_true h).elim⟩
  | some i =>
    rw [hc] at e5
    have e5 : MT x n u (wl x.2 n p) := e5
    obtain ⟨i1, -⟩ := pco_some hn hp hc
    obtain ⟨-, -, -, q4, -⟩ := wc_ok i i1
    obtain ⟨m', g1, g2, g3, g4, g5, g6, g7⟩ := isCmd_L (x := x) hn (enM i) 0 (enM i) fu (by omega) (by omega) (by have := fu_ge; omega) (wl x.2 n p) (sc_le hp) u e5
    have hw := e6 i hc
    simp only [Option.isSome_some, if_true, lt]
    rw [hw, (many_some i i1).1]
    exact ⟨m', g1, ⟨e2, g2⟩, e3.trans g3, g5, fun h => ⟨i, rfl, by rw [g4]; exact hw, fun j hj => by have := g6 h j hj; rwa [Nat.zero_add] at this⟩⟩
end MREAD
end PARSE
