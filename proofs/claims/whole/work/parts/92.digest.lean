/-! PURE: the digests of the two objects -/
section DIGEST
variable {C R M W N : Nat} {b b' : BS} {S S' : Nat → Int32} {m m' : MS} {s9 : SS} {u : US} {x : TS} {kk : Int32}
def mx (h : Int64) (v : Int32) : Int64 := 31 * h + v.toInt64
theorem mx_c (h : Int64) (v : Int32) : pX11_mix h v.toInt64 = mx h v := rfl
def mm (m : MS) (h : Int64) : MS := msj m 1 h
theorem mm_mix (m : MS) (h : Int64) (v : Int32) : pX12_mix (mm m h) v = mm m (mx h v) := by
  unfold pX12_mix mm mx msj
  simp only [lt]
  have e : updJ (updJ m.2.1 1 h) 1 (31 * updJ m.2.1 1 h 1 + v.toInt64) = updJ m.2.1 1 (31 * h + v.toInt64) := by
    funext j
    unfold updJ
    split <;> rfl
  rw [e]
theorem mm_1 (m : MS) (h : Int64) : (mm m h).1 = m.1 := rfl
theorem mm_3 (m : MS) (h : Int64) : (mm m h).2.2 = m.2.2 := rfl
theorem mm_h (m : MS) (h : Int64) : (mm m h).2.1 1 = h := rfl
def mxf (f : Nat → Int32) : Nat → Nat → Int64 → Int64
  | 0 => fun _ h => h
  | d + 1 => fun c h => mxf f d (c + 1) (mx h (f c))
theorem mxf_add (f : Nat → Int32) : ∀ (a e c : Nat) (h : Int64), mxf f (a + e) c h = mxf f e (c + a) (mxf f a c h) := by
  intro a
  induction a with
  | zero => intro e c h; rw [Nat.zero_add]; rfl
  | succ a ih =>
    intro e c h
    rw [show a + 1 + e = (a + e) + 1 by omega]
    show mxf f (a + e) (c + 1) (mx h (f c)) = mxf f e (c + (a + 1)) (mxf f a (c + 1) (mx h (f c)))
    rw [ih, show c + 1 + a = c + (a + 1) by omega]
/-- a row of a table of the class -/
theorem row_v1 (h : BR C R M W N b S) {i : Nat} (hi : i < W) (q : Int64 → Int32 → Int64) (Q : Int64 → Int32 → Prop) : ∀ (n c : Nat), c ≤ 3 → 3 - c < n → ∀ g : Int64, pX11_mixTable_L29v1 b kk q n g (nI i) (nI c) = q (mxf (fun k => S (94 + k)) (3 - c) (3 * i + c) g) (nI (i + 1)) ∧ (Q (mxf (fun k => S (94 + k)) (3 - c) (3 * i + c) g) (nI (i + 1)) → kX11_mixTable_L29v1 b kk Q n g (nI i) (nI c)) := by
  intro n
  induction n with
  | zero => intro c h1 h2; omega
  | succ n ih =>
    intro c h1 h2 g
    show bX11_mixTable_L29v1 b kk q (pX11_mixTable_L29v1 b kk q n) _ _ _ = _ ∧ (_ → kbX11_mixTable_L29v1 b kk Q (kX11_mixTable_L29v1 b kk Q n) _ _ _)
    unfold bX11_mixTable_L29v1 kbX11_mixTable_L29v1
    by_cases e : c = 3
    · subst e
      simp only [if_pos (show (3 : Int32) ≤ nI 3 by decide), lt, nI_1]
      exact ⟨rfl, fun hq => hq⟩
    · obtain ⟨e1, e2⟩ := at3 (k := c) (kk := nI c) h rfl hi (by omega)
      simp only [if_neg (show ¬ (3 : Int32) ≤ nI c from nI_ge (b := 3) (by omega) (by omega)), lt, nI_1, e1, mx_c]
      have r := ih (c + 1) (by omega) (by omega) (mx g (S (94 + 3 * i + c)))
      have ef : mxf (fun k => S (94 + k)) (3 - c) (3 * i + c) g = mxf (fun k => S (94 + k)) (3 - (c + 1)) (3 * i + (c + 1)) (mx g (S (94 + 3 * i + c))) := by
        rw [show 3 - c = 3 - (c + 1) + 1 by omega]
        show mxf _ _ (3 * i + c + 1) (mx g (S (94 + (3 * i + c)))) = _
        rw [show 94 + (3 * i + c) = 94 + 3 * i + c by omega, Nat.add_assoc]
      rw [ef]
      exact ⟨r.1, fun hq => ⟨e2, r.2 hq⟩⟩
theorem tab_v1 (h : BR C R M W N b S) : ∀ (n i : Nat), i ≤ W → W - i < n → ∀ g : Int64, pX11_mixTable_L16v1 b kk n g (nI i) = mxf (fun k => S (94 + k)) (3 * (W - i)) (3 * i) g ∧ kX11_mixTable_L16v1 b kk n g (nI i) := by
  have hl := h.le
  intro n
  induction n with
  | zero => intro c h1 h2; omega
  | succ n ih =>
    intro i h1 h2 g
    show bX11_mixTable_L16v1 b kk (pX11_mixTable_L16v1 b kk n) _ _ = _ ∧ kbX11_mixTable_L16v1 b kk (kX11_mixTable_L16v1 b kk n) _ _
    unfold bX11_mixTable_L16v1 kbX11_mixTable_L16v1
    rw [h.b5]
    by_cases e : i = W
    · subst e
      simp only [if_pos (nI_le (Nat.le_refl i) (show i < 2 ^ 31 by omega)), Nat.sub_self]
      exact ⟨rfl, trivial⟩
    · have hi : i < W := by omega
      simp only [if_neg (nI_ge hi (show W < 2 ^ 31 by omega))]
      obtain ⟨r1, r2⟩ := row_v1 (kk := kk) h hi (pX11_mixTable_L16v1 b kk n) (kX11_mixTable_L16v1 b kk n) fu 0 (by omega) (by have := fu_ge; omega) g
      have q := ih (i + 1) (by omega) (by omega) (mxf (fun k => S (94 + k)) 3 (3 * i) g)
      rw [show (0 : Int32) = nI 0 from rfl, r1]
      rw [show 3 * (W - i) = 3 + 3 * (W - (i + 1)) by omega, mxf_add, show 3 * i + 3 = 3 * (i + 1) by omega]
      exact ⟨q.1, r2 q.2⟩
theorem row_v2 (h : BR C R M W N b S) {i : Nat} (hi : i < N) (q : Int64 → Int32 → Int64) (Q : Int64 → Int32 → Prop) : ∀ (n c : Nat), c ≤ 4 → 4 - c < n → ∀ g : Int64, pX11_mixTable_L29v2 b kk q n g (nI i) (nI c) = q (mxf (fun k => S (106 + k)) (4 - c) (4 * i + c) g) (nI (i + 1)) ∧ (Q (mxf (fun k => S (106 + k)) (4 - c) (4 * i + c) g) (nI (i + 1)) → kX11_mixTable_L29v2 b kk Q n g (nI i) (nI c)) := by
  intro n
  induction n with
  | zero => intro c h1 h2; omega
  | succ n ih =>
    intro c h1 h2 g
    show bX11_mixTable_L29v2 b kk q (pX11_mixTable_L29v2 b kk q n) _ _ _ = _ ∧ (_ → kbX11_mixTable_L29v2 b kk Q (kX11_mixTable_L29v2 b kk Q n) _ _ _)
    unfold bX11_mixTable_L29v2 kbX11_mixTable_L29v2
    by_cases e : c = 4
    · subst e
      simp only [if_pos (show (4 : Int32) ≤ nI 4 by decide), lt, nI_1]
      exact ⟨rfl, fun hq => hq⟩
    · obtain ⟨e1, e2⟩ := at4 (k := c) (kk := nI c) h rfl hi (by omega)
      simp only [if_neg (show ¬ (4 : Int32) ≤ nI c from nI_ge (b := 4) (by omega) (by omega)), lt, nI_1, e1, mx_c]
      have r := ih (c + 1) (by omega) (by omega) (mx g (S (106 + 4 * i + c)))
      have ef : mxf (fun k => S (106 + k)) (4 - c) (4 * i + c) g = mxf (fun k => S (106 + k)) (4 - (c + 1)) (4 * i + (c + 1)) (mx g (S (106 + 4 * i + c))) := by
        rw [show 4 - c = 4 - (c + 1) + 1 by omega]
        show mxf _ _ (4 * i + c + 1) (mx g (S (106 + (4 * i + c)))) = _
        rw [show 106 + (4 * i + c) = 106 + 4 * i + c by omega, Nat.add_assoc]
      rw [ef]
      exact ⟨r.1, fun hq => ⟨e2, r.2 hq⟩⟩
theorem tab_v2 (h : BR C R M W N b S) : ∀ (n i : Nat), i ≤ N → N - i < n → ∀ g : Int64, pX11_mixTable_L16v2 b kk n g (nI i) = mxf (fun k => S (106 + k)) (4 * (N - i)) (4 * i) g ∧ kX11_mixTable_L16v2 b kk n g (nI i) := by
  have hl := h.le
  intro n
  induction n with
  | zero => intro c h1 h2; omega
  | succ n ih =>
    intro i h1 h2 g
    show bX11_mixTable_L16v2 b kk (pX11_mixTable_L16v2 b kk n) _ _ = _ ∧ kbX11_mixTable_L16v2 b kk (kX11_mixTable_L16v2 b kk n) _ _
    unfold bX11_mixTable_L16v2 kbX11_mixTable_L16v2
    rw [h.b6]
    by_cases e : i = N
    · subst e
      simp only [if_pos (nI_le (Nat.le_refl i) (show i < 2 ^ 31 by omega)), Nat.sub_self]
      exact ⟨rfl, trivial⟩
    · have hi : i < N := by omega
      simp only [if_neg (nI_ge hi (show N < 2 ^ 31 by omega))]
      obtain ⟨r1, r2⟩ := row_v2 (kk := kk) h hi (pX11_mixTable_L16v2 b kk n) (kX11_mixTable_L16v2 b kk n) fu 0 (by omega) (by have := fu_ge; omega) g
      have q := ih (i + 1) (by omega) (by omega) (mxf (fun k => S (106 + k)) 4 (4 * i) g)
      rw [show (0 : Int32) = nI 0 from rfl, r1]
      rw [show 4 * (N - i) = 4 + 4 * (N - (i + 1)) by omega, mxf_add, show 4 * i + 4 = 4 * (i + 1) by omega]
      exact ⟨q.1, r2 q.2⟩
theorem tab_v3 (h : BR C R M W N b S) : ∀ (n i : Nat), i ≤ 7 → 7 - i < n → ∀ g : Int64, pX11_mixTable_L16v3 b kk n g (nI i) = mxf (fun k => S (7 + k)) (7 - i) i g ∧ kX11_mixTable_L16v3 b kk n g (nI i) := by
  intro n
  induction n with
  | zero => intro c h1 h2; omega
  | succ n ih =>
    intro i h1 h2 g
    show bX11_mixTable_L16v3 b kk (pX11_mixTable_L16v3 b kk n) _ _ = _ ∧ kbX11_mixTable_L16v3 b kk (kX11_mixTable_L16v3 b kk n) _ _
    unfold bX11_mixTable_L16v3 kbX11_mixTable_L16v3
    rw [h.b7]
    by_cases e : i = 7
    · subst e
      simp only [if_pos (nI_le (Nat.le_refl 7) (show 7 < 2 ^ 31 by omega)), Nat.sub_self]
      exact ⟨rfl, trivial⟩
    · have hi : i < 7 := by omega
      obtain ⟨e1, e2⟩ := at1 (i := i) (ii := nI i) h rfl hi
      rw [h.b7] at e1 e2
      simp only [if_neg (nI_ge hi (show 7 < 2 ^ 31 by omega))]
      obtain ⟨p, hp, -⟩ := pu_fu 2 (by omega)
      have q := ih (i + 1) (by omega) (by omega) (mx g (S (7 + i)))
      have s1 : pX11_mixTable_L29v3 b kk (pX11_mixTable_L16v3 b kk n) (p + 2) g (nI i) 0 = pX11_mixTable_L16v3 b kk n (mx g (S (7 + i))) (nI (i + 1)) ∧ (kX11_mixTable_L16v3 b kk n (mx g (S (7 + i))) (nI (i + 1)) → kX11_mixTable_L29v3 b kk (kX11_mixTable_L16v3 b kk n) (p + 2) g (nI i) 0) := by
        show bX11_mixTable_L29v3 b kk _ (bX11_mixTable_L29v3 b kk _ (pX11_mixTable_L29v3 b kk _ p)) _ _ _ = _ ∧ (_ → kbX11_mixTable_L29v3 b kk _ (kbX11_mixTable_L29v3 b kk _ (kX11_mixTable_L29v3 b kk _ p)) _ _ _)
        unfold bX11_mixTable_L29v3 kbX11_mixTable_L29v3
        rw [h.b7]
        simp only [if_neg (show ¬ (1 : Int32) ≤ 0 by decide), lt, if_pos (show (1 : Int32) ≤ 0 + 1 by decide), nI_1, e1, mx_c]
        exact ⟨trivial, fun hq => ⟨e2, hq⟩⟩
      rw [hp, s1.1]
      rw [show 7 - i = 7 - (i + 1) + 1 by omega]
      exact ⟨q.1, s1.2 q.2⟩
theorem mixTable_eq (h : BR C R M W N b S) (g : Int64) : (pX11_mixTable b kk g 1 = mxf (fun k => S (94 + k)) (3 * W) 0 g ∧ kX11_mixTable b kk g 1) ∧ (pX11_mixTable b kk g 2 = mxf (fun k => S (106 + k)) (4 * N) 0 g ∧ kX11_mixTable b kk g 2) ∧ (pX11_mixTable b kk g 3 = mxf (fun k => S (7 + k)) 7 0 g ∧ kX11_mixTable b kk g 3) := by
  have hl := h.le
  have t1 : pX2_tableOf b 1 = 1 := rfl
  have t2 : pX2_tableOf b 2 = 2 := rfl
  have t3 : pX2_tableOf b 3 = 3 := rfl
  have a1 := tab_v1 (kk := kk) h fu 0 (by omega) (by have := fu_ge; omega) g
  have a2 := tab_v2 (kk := kk) h fu 0 (by omega) (by have := fu_ge; omega) g
  have a3 := tab_v3 (kk := kk) h fu 0 (by omega) (by have := fu_ge; omega) g
  refine ⟨?_, ?_, ?_⟩
  · unfold pX11_mixTable kX11_mixTable
    rw [t1, if_neg (by decide), if_pos rfl, if_neg (by decide), if_pos rfl]
    exact a1
  · unfold pX11_mixTable kX11_mixTable
    rw [t2, if_neg (by decide), if_neg (by decide), if_pos rfl, if_neg (by decide), if_neg (by decide), if_pos rfl]
    exact a2
  · unfold pX11_mixTable kX11_mixTable
    rw [t3, if_neg (by decide), if_neg (by decide), if_neg (by decide), if_neg (by decide), if_neg (by decide), if_neg (by decide)]
    exact ⟨a3.1, rfl, a3.2⟩
/-- the reference's parts -/
theorem part0 {i c : Nat} (hi : i < 8) (hc : c < 4) : pX12_partOf m 0 (nI i) (nI c) = m.2.2 0 (14 + 10 * i + c) ∧ kX12_partOf m 0 (nI i) (nI c) := by
  obtain ⟨e1, e2⟩ := of_ix (i := i) (k := c) hi (by omega)
  exact ⟨show m.2.2 0 (14 + 10 * nI i + nI c).toNatClampNeg = _ by rw [e1], e2⟩
theorem part1 {v : Nat} (hv : v < 12) : pX12_partOf m 1 (nI v / 3) (nI v - nI v / 3 * 3) = m.2.2 0 (94 + v) ∧ kX12_partOf m 1 (nI v / 3) (nI v - nI v / 3 * 3) := by
  have e1 : nI v / 3 = nI (v / 3) := pk_div (d := 3) (by omega) (by omega) (by omega)
  have e2 : nI v - nI v / 3 * 3 = nI (v % 3) := pk_rem (d := 3) (by omega) (by omega) (by omega)
  have e3 : (94 + 3 * nI (v / 3) + nI (v % 3) : Int32) = nI (94 + v) := by
    rw [show (3 : Int32) = nI 3 from rfl, show (94 : Int32) = nI 94 from rfl, pk_mul, nI_add, nI_add]
    congr 1
    omega
  rw [e2, e1]
  refine ⟨?_, ?_⟩
  · show m.2.2 0 (94 + 3 * nI (v / 3) + nI (v % 3)).toNatClampNeg = _
    rw [e3, nI_clamp (by omega)]
  · show vp_in (94 + 3 * nI (v / 3) + nI (v % 3)) 122
    rw [e3]
    exact vp_in_n (by omega) (by omega)
theorem part2 {v : Nat} (hv : v < 16) : pX12_partOf m 2 (nI v / 4) (nI v - nI v / 4 * 4) = m.2.2 0 (106 + v) ∧ kX12_partOf m 2 (nI v / 4) (nI v - nI v / 4 * 4) := by
  have e1 : nI v / 4 = nI (v / 4) := pk_div (d := 4) (by omega) (by omega) (by omega)
  have e2 : nI v - nI v / 4 * 4 = nI (v % 4) := pk_rem (d := 4) (by omega) (by omega) (by omega)
  have e3 : (106 + 4 * nI (v / 4) + nI (v % 4) : Int32) = nI (106 + v) := by
    rw [show (4 : Int32) = nI 4 from rfl, show (106 : Int32) = nI 106 from rfl, pk_mul, nI_add, nI_add]
    congr 1
    omega
  rw [e2, e1]
  refine ⟨?_, ?_⟩
  · show m.2.2 0 (106 + 4 * nI (v / 4) + nI (v % 4)).toNatClampNeg = _
    rw [e3, nI_clamp (by omega)]
  · show vp_in (106 + 4 * nI (v / 4) + nI (v % 4)) 122
    rw [e3]
    exact vp_in_n (by omega) (by omega)
theorem part3 {v : Nat} (hv : v < 7) : pX12_partOf m 3 (nI v) 0 = m.2.2 0 (7 + v) ∧ kX12_partOf m 3 (nI v) 0 := by
  have e3 : (7 + nI v : Int32) = nI (7 + v) := nI_add 7 v
  refine ⟨?_, ?_⟩
  · show m.2.2 0 (7 + nI v).toNatClampNeg = _
    rw [e3, nI_clamp (by omega)]
  · show vp_in (7 + nI v) 122
    rw [e3]
    exact vp_in_n (by omega) (by omega)
theorem d93_L (h : BR C R M W N b (m.2.2 0)) (f : Int32) : ∀ (n v : Nat), v ≤ 3 * W → 3 * W - v < n → ∀ g : Int64, pX12_digest_L93 n f (nI v) (mm m g) = pX12_digest_L128 fu f 0 (mm m (mxf (fun k => m.2.2 0 (94 + k)) (3 * W - v) v g)) ∧ (kX12_digest_L128 fu f 0 (mm m (mxf (fun k => m.2.2 0 (94 + k)) (3 * W - v) v g)) → kX12_digest_L93 n f (nI v) (mm m g)) := by
  have hl := h.le
  intro n
  induction n with
  | zero => intro c h1 h2; omega
  | succ n ih =>
    intro v h1 h2 g
    show bX12_digest_L93 (pX12_digest_L93 n) _ _ _ = _ ∧ (_ → kbX12_digest_L93 (kX12_digest_L93 n) _ _ _)
    unfold bX12_digest_L93 kbX12_digest_L93
    rw [mm_3, h.eW, show (3 : Int32) * nI W = nI (3 * W) from pk_mul 3 W]
    by_cases e : v = 3 * W
    · rw [e]
      simp only [if_pos (nI_le (Nat.le_refl (3 * W)) (show 3 * W < 2 ^ 31 by omega)), Nat.sub_self]
      exact ⟨rfl, fun hk => hk⟩
    · have hv : v < 3 * W := by omega
      obtain ⟨p1, p2⟩ := part1 (m := mm m g) (v := v) (by omega)
      simp only [if_neg (nI_ge hv (show 3 * W < 2 ^ 31 by omega)), p1, mm_3, mm_mix, lt, nI_1]
      have r := ih (v + 1) (by omega) (by omega) (mx g (m.2.2 0 (94 + v)))
      rw [show 3 * W - v = 3 * W - (v + 1) + 1 by omega]
      exact ⟨r.1, fun hk => ⟨p2, r.2 hk⟩⟩
theorem d128_L (h : BR C R M W N b (m.2.2 0)) (f : Int32) : ∀ (n v : Nat), v ≤ 4 * N → 4 * N - v < n → ∀ g : Int64, pX12_digest_L128 n f (nI v) (mm m g) = pX12_digest_L163 fu f 0 (mm m (mxf (fun k => m.2.2 0 (106 + k)) (4 * N - v) v g)) ∧ (kX12_digest_L163 fu f 0 (mm m (mxf (fun k => m.2.2 0 (106 + k)) (4 * N - v) v g)) → kX12_digest_L128 n f (nI v) (mm m g)) := by
  have hl := h.le
  intro n
  induction n with
  | zero => intro c h1 h2; omega
  | succ n ih =>
    intro v h1 h2 g
    show bX12_digest_L128 (pX12_digest_L128 n) _ _ _ = _ ∧ (_ → kbX12_digest_L128 (kX12_digest_L128 n) _ _ _)
    unfold bX12_digest_L128 kbX12_digest_L128
    rw [mm_3, h.eN, show (4 : Int32) * nI N = nI (4 * N) from pk_mul 4 N]
    by_cases e : v = 4 * N
    · rw [e]
      simp only [if_pos (nI_le (Nat.le_refl (4 * N)) (show 4 * N < 2 ^ 31 by omega)), Nat.sub_self]
      exact ⟨rfl, fun hk => hk⟩
    · have hv : v < 4 * N := by omega
      obtain ⟨p1, p2⟩ := part2 (m := mm m g) (v := v) (by omega)
      simp only [if_neg (nI_ge hv (show 4 * N < 2 ^ 31 by omega)), p1, mm_3, mm_mix, lt, nI_1]
      have r := ih (v + 1) (by omega) (by omega) (mx g (m.2.2 0 (106 + v)))
      rw [show 4 * N - v = 4 * N - (v + 1) + 1 by omega]
      exact ⟨r.1, fun hk => ⟨p2, r.2 hk⟩⟩
theorem d163_L (h : BR C R M W N b (m.2.2 0)) (f : Int32) : ∀ (n v : Nat), v ≤ 7 → 7 - v < n → ∀ g : Int64, ∃ z : Int64, z = mx (mxf (fun k => m.2.2 0 (7 + k)) (7 - v) v g) f ∧ pX12_digest_L163 n f (nI v) (mm m g) = pX12_digest_L202 fu 0 (mm m (mx z (pX12_suspectBy (mm m z) f))) ∧ (kX12_suspectBy (mm m z) f → kX12_digest_L202 fu 0 (mm m (mx z (pX12_suspectBy (mm m z) f))) → kX12_digest_L163 n f (nI v) (mm m g)) := by
  intro n
  induction n with
  | zero => intro c h1 h2; omega
  | succ n ih =>
    intro v h1 h2 g
    show ∃ z : Int64, _ ∧ bX12_digest_L163 (pX12_digest_L163 n) _ _ _ = _ ∧ (_ → _ → kbX12_digest_L163 (kX12_digest_L163 n) _ _ _)
    unfold bX12_digest_L163 kbX12_digest_L163
    by_cases e : v = 7
    · rw [e]
      simp only [if_pos (show (7 : Int32) ≤ nI 7 by decide), lt, mm_mix, Nat.sub_self]
      exact ⟨_, rfl, rfl, fun h1 h2 => ⟨h1, h2⟩⟩
    · obtain ⟨p1, p2⟩ := part3 (m := mm m g) (v := v) (by omega)
      simp only [if_neg (show ¬ (7 : Int32) ≤ nI v from nI_ge (b := 7) (by omega) (by omega)), p1, mm_3, mm_mix, lt, nI_1]
      obtain ⟨z, r1, r2, r3⟩ := ih (v + 1) (by omega) (by omega) (mx g (m.2.2 0 (7 + v)))
      rw [show 7 - v = 7 - (v + 1) + 1 by omega]
      exact ⟨z, r1, r2, fun k1 k2 => ⟨p2, r3 k1 k2⟩⟩
theorem cells_L (h : BR C R M W N b (m.2.2 0)) {s : SS} (hF : FV (m.2.2 0) (hasP (m.2.2 0)) M (C * R) m) (hV : SV (m.2.2 0) (hasP (m.2.2 0)) M (C * R) s) : ∀ (n c : Nat), c ≤ C * R → C * R - c < n → ∀ g : Int64, ∃ z : Int64, pX11_mixCells_L5 s b kk n g (nI c) = z ∧ pX12_digest_L202 n (nI c) (mm m g) = (z, mm m z) ∧ kX11_mixCells_L5 s b kk n g (nI c) ∧ kX12_digest_L202 n (nI c) (mm m g) := by
  have hl := h.le
  have hCR : C * R ≤ 20 * 20 := Nat.mul_le_mul (by omega) (by omega)
  intro n
  induction n with
  | zero => intro c h1 h2; omega
  | succ n ih =>
    intro c h1 h2 g
    show ∃ z : Int64, bX11_mixCells_L5 s b kk (pX11_mixCells_L5 s b kk n) _ _ = _ ∧ bX12_digest_L202 (pX12_digest_L202 n) _ _ = _ ∧ kbX11_mixCells_L5 s b kk (kX11_mixCells_L5 s b kk n) _ _ ∧ kbX12_digest_L202 (kX12_digest_L202 n) _ _
    unfold bX11_mixCells_L5 kbX11_mixCells_L5 bX12_digest_L202 kbX12_digest_L202 pX2_cellCount
    rw [mm_3, h.eC, h.eR, h.b0, h.b1, pk_mul]
    by_cases e : c = C * R
    · rw [e]
      simp only [if_pos (nI_le (Nat.le_refl (C * R)) (show C * R < 2 ^ 31 by omega)), mm_h]
      exact ⟨g, rfl, rfl, trivial, trivial⟩
    · have hc : c < C * R := by omega
      obtain ⟨v1, v2, v3, v4⟩ := votesOf_eq (s := s) (c := c) (by omega)
      have V : vp_in (nI c) 400 := vp_in_n (by omega) (by omega)
      simp only [if_neg (nI_ge hc (show C * R < 2 ^ 31 by omega)), v1, v3, (hV.2.1 c hc).1, (hV.2.1 c hc).2, mm_mix, mm_3, nI_clamp (show c < 2 ^ 31 by omega), (hF.1 c hc).1, (hF.1 c hc).2, lt, nI_1, mx_c]
      obtain ⟨z, r1, r2, r3, r4⟩ := ih (c + 1) (by omega) (by omega) (mx (mx g (vS (m.2.2 0) (hasP (m.2.2 0)) M c)) (eS (m.2.2 0) (hasP (m.2.2 0)) M c))
      exact ⟨z, r1, r2, ⟨v2, v4, r3⟩, V, V, r4⟩
/-- a microphone's values -/
noncomputable def colV (m : MS) (i c : Nat) : Int32 := if c < 4 then m.2.2 0 (14 + 10 * i + c) else if c = 4 then pX12_noteOf m (nI i) else pX12_heardOf m (nI i) (nI (c - 5))
theorem colV_at (h : BR C R M W N b (m.2.2 0)) {i c : Nat} (hi : i < M) (hc : c < 9) : pX9_at 8 9 72 (b.1 4, b.2 0) (nI i) (nI c) = colV m i c ∧ kX9_at 8 9 72 (b.1 4, b.2 0) (nI i) (nI c) := by
  unfold colV
  by_cases c1 : c < 4
  · rw [if_pos c1]
    exact at9m (k := c) (kk := nI c) h rfl hi c1
  · rw [if_neg c1]
    by_cases c2 : c = 4
    · subst c2
      rw [if_pos rfl]
      obtain ⟨v1, v2, -⟩ := noteV h hi
      exact ⟨v1, v2⟩
    · rw [if_neg c2]
      obtain ⟨k, rfl⟩ : ∃ k, c = 5 + k := ⟨c - 5, by omega⟩
      obtain ⟨v1, v2, -⟩ := heardV h hi (show k < 4 by omega)
      rw [show 5 + k - 5 = k by omega]
      exact ⟨v1, v2⟩
theorem noteOf_S {m m' : MS} (e : m'.2.2 0 = m.2.2 0) (i : Int32) : pX12_noteOf m' i = pX12_noteOf m i ∧ kX12_noteOf m' i = kX12_noteOf m i := by
  unfold pX12_noteOf kX12_noteOf pX12_of kX12_of
  rw [e]
  exact ⟨rfl, rfl⟩
theorem heardOf_S {m m' : MS} (e : m'.2.2 0 = m.2.2 0) (i k : Int32) : pX12_heardOf m' i k = pX12_heardOf m i k ∧ kX12_heardOf m' i k = kX12_heardOf m i k := by
  unfold pX12_heardOf kX12_heardOf pX12_of kX12_of
  rw [e]
  exact ⟨rfl, rfl⟩
theorem m26_L (h : BR C R M W N b (m.2.2 0)) {i : Nat} (hi : i < M) (q : Int64 → Int32 → SS → BS → Int32 → (Int64 × SS × BS × Int32)) (Q : Int64 → Int32 → SS → BS → Int32 → Prop) (s : SS) : ∀ (n c : Nat), c ≤ 9 → 9 - c < n → ∀ g : Int64, pX11_mixMicrophones_L26 q n g (nI i) (nI c) s b kk = (bd (pX8_blameOf s b (nI i)) fun (r4 : Int32) (u5 : SS × BS) => q (mx (mxf (colV m i) (9 - c) c g) r4) (nI (i + 1)) u5.1 u5.2 kk) ∧ ((kX8_blameOf s b (nI i) ∧ (bd (pX8_blameOf s b (nI i)) fun (r4 : Int32) (u5 : SS × BS) => Q (mx (mxf (colV m i) (9 - c) c g) r4) (nI (i + 1)) u5.1 u5.2 kk)) → kX11_mixMicrophones_L26 Q n g (nI i) (nI c) s b kk) := by
  intro n
  induction n with
  | zero => intro c h1 h2; omega
  | succ n ih =>
    intro c h1 h2 g
    show bX11_mixMicrophones_L26 q (pX11_mixMicrophones_L26 q n) _ _ _ _ _ _ = _ ∧ (_ → kbX11_mixMicrophones_L26 Q (kX11_mixMicrophones_L26 Q n) _ _ _ _ _ _)
    unfold bX11_mixMicrophones_L26 kbX11_mixMicrophones_L26
    by_cases e : c = 9
    · rw [e]
      simp only [if_pos (show (9 : Int32) ≤ nI 9 by decide), lt, nI_1, Nat.sub_self, mx_c]
      exact ⟨rfl, fun hk => hk⟩
    · obtain ⟨e1, e2⟩ := colV_at h hi (show c < 9 by omega)
      simp only [if_neg (show ¬ (9 : Int32) ≤ nI c from nI_ge (b := 9) (by omega) (by omega)), lt, nI_1, e1, mx_c]
      have r := ih (c + 1) (by omega) (by omega) (mx g (colV m i c))
      rw [show 9 - c = 9 - (c + 1) + 1 by omega]
      exact ⟨r.1, fun hk => ⟨e2, r.2 hk⟩⟩
theorem m35_L (h : BR C R M W N b (m.2.2 0)) {i : Nat} (hi : i < M) (f : Int32) : ∀ (n k : Nat), k ≤ 4 → 4 - k < n → ∀ g : Int64, pX12_mixMicrophone_L35 n (nI i) f (nI k) (mm m g) = mm m (mx (mxf (colV m i) (4 - k) (5 + k) g) (pX12_blameOf (mm m (mxf (colV m i) (4 - k) (5 + k) g)) (nI i) f)) ∧ (kX12_blameOf (mm m (mxf (colV m i) (4 - k) (5 + k) g)) (nI i) f → kX12_mixMicrophone_L35 n (nI i) f (nI k) (mm m g)) := by
  intro n
  induction n with
  | zero => intro c h1 h2; omega
  | succ n ih =>
    intro k h1 h2 g
    show bX12_mixMicrophone_L35 (pX12_mixMicrophone_L35 n) _ _ _ _ = _ ∧ (_ → kbX12_mixMicrophone_L35 (kX12_mixMicrophone_L35 n) _ _ _ _)
    unfold bX12_mixMicrophone_L35 kbX12_mixMicrophone_L35
    by_cases e : k = 4
    · rw [e]
      simp only [if_pos (show (4 : Int32) ≤ nI 4 by decide), lt, mm_mix, Nat.sub_self]
      exact ⟨rfl, fun hk => hk⟩
    · have hb : BR C R M W N b ((mm m g).2.2 0) := h
      obtain ⟨-, -, v3⟩ := heardV hb hi (show k < 4 by omega)
      have ec : pX12_heardOf (mm m g) (nI i) (nI k) = colV m i (5 + k) := by
        unfold colV
        rw [if_neg (by omega), if_neg (by omega), show 5 + k - 5 = k by omega]
        exact (heardOf_S (m := m) (m' := mm m g) rfl _ _).1
      simp only [if_neg (show ¬ (4 : Int32) ≤ nI k from nI_ge (b := 4) (by omega) (by omega)), lt, nI_1, ec, mm_mix]
      have r := ih (k + 1) (by omega) (by omega) (mx g (colV m i (5 + k)))
      rw [show 4 - k = 4 - (k + 1) + 1 by omega]
      exact ⟨r.1, fun hk => ⟨v3, r.2 hk⟩⟩
theorem m2_L (h : BR C R M W N b (m.2.2 0)) {i : Nat} (hi : i < M) (f : Int32) : ∀ (n c : Nat), c ≤ 4 → 4 - c < n → ∀ g : Int64, pX12_mixMicrophone_L2 n (nI i) f (nI c) (mm m g) = pX12_mixMicrophone_L35 fu (nI i) f 0 (mm m (mx (mxf (colV m i) (4 - c) c g) (colV m i 4))) ∧ (kX12_mixMicrophone_L35 fu (nI i) f 0 (mm m (mx (mxf (colV m i) (4 - c) c g) (colV m i 4))) → kX12_mixMicrophone_L2 n (nI i) f (nI c) (mm m g)) := by
  have hl := h.le
  intro n
  induction n with
  | zero => intro c h1 h2; omega
  | succ n ih =>
    intro c h1 h2 g
    show bX12_mixMicrophone_L2 (pX12_mixMicrophone_L2 n) _ _ _ _ = _ ∧ (_ → kbX12_mixMicrophone_L2 (kX12_mixMicrophone_L2 n) _ _ _ _)
    unfold bX12_mixMicrophone_L2 kbX12_mixMicrophone_L2
    by_cases e : c = 4
    · rw [e]
      have hb : BR C R M W N b ((mm m g).2.2 0) := h
      obtain ⟨-, -, v3⟩ := noteV hb hi
      have ec : pX12_noteOf (mm m g) (nI i) = colV m i 4 := (noteOf_S (m := m) (m' := mm m g) rfl _).1
      simp only [if_pos (show (4 : Int32) ≤ nI 4 by decide), lt, mm_mix, Nat.sub_self, ec]
      exact ⟨rfl, fun hk => ⟨v3, hk⟩⟩
    · obtain ⟨p1, p2⟩ := part0 (m := mm m g) (i := i) (c := c) (by omega) (by omega)
      have ec : m.2.2 0 (14 + 10 * i + c) = colV m i c := by unfold colV; rw [if_pos (by omega)]
      simp only [if_neg (show ¬ (4 : Int32) ≤ nI c from nI_ge (b := 4) (by omega) (by omega)), lt, nI_1, p1, mm_3, ec, mm_mix]
      have r := ih (c + 1) (by omega) (by omega) (mx g (colV m i c))
      rw [show 4 - c = 4 - (c + 1) + 1 by omega]
      exact ⟨r.1, fun hk => ⟨p2, r.2 hk⟩⟩
theorem mic_d (h : BR C R M W N b (m.2.2 0)) {i : Nat} (hi : i < M) (g : Int64) : pX12_mixMicrophone (mm m g) (nI i) (foundQ (m.2.2 0) (hasP (m.2.2 0)) M (C * R)) = mm m (mx (mxf (colV m i) 9 0 g) (blameQ (m.2.2 0) (hasP (m.2.2 0)) M (C * R) i)) ∧ kX12_mixMicrophone (mm m g) (nI i) (foundQ (m.2.2 0) (hasP (m.2.2 0)) M (C * R)) := by
  have hl := h.le
  obtain ⟨a1, a2⟩ := m2_L h hi (foundQ (m.2.2 0) (hasP (m.2.2 0)) M (C * R)) fu 0 (by omega) (by have := fu_ge; omega) g
  obtain ⟨c1, c2⟩ := m35_L h hi (foundQ (m.2.2 0) (hasP (m.2.2 0)) M (C * R)) fu 0 (by omega) (by have := fu_ge; omega) (mx (mxf (colV m i) 4 0 g) (colV m i 4))
  have hb : BR C R M W N b ((mm m (mxf (colV m i) 4 5 (mx (mxf (colV m i) 4 0 g) (colV m i 4)))).2.2 0) := h
  obtain ⟨d1, d2⟩ := blame_m hb (P := hasP (m.2.2 0)) (fun j hj => hasP_all (by omega)) hi
  have d1 : pX12_blameOf (mm m (mxf (colV m i) 4 5 (mx (mxf (colV m i) 4 0 g) (colV m i 4)))) (nI i) (foundQ (m.2.2 0) (hasP (m.2.2 0)) M (C * R)) = blameQ (m.2.2 0) (hasP (m.2.2 0)) M (C * R) i := d1
  refine ⟨?_, a2 (c2 d2)⟩
  have e : mxf (colV m i) 9 0 g = mxf (colV m i) 4 5 (mx (mxf (colV m i) 4 0 g) (colV m i 4)) := rfl
  rw [e, ← d1]
  exact a1.trans c1
theorem mics_L (h : BR C R M W N b (m.2.2 0)) : ∀ (n i : Nat), i ≤ M → M - i < n → ∀ (s : SS) (g : Int64), SV (m.2.2 0) (hasP (m.2.2 0)) M (C * R) s → ∃ (z : Int64) (s' : SS), pX11_mixMicrophones_L14 n g (nI i) s b kk = (z, s', b, kk) ∧ kX11_mixMicrophones_L14 n g (nI i) s b kk ∧ pX12_digest_L69 n (foundQ (m.2.2 0) (hasP (m.2.2 0)) M (C * R)) (nI i) (mm m g) = pX12_digest_L93 fu (foundQ (m.2.2 0) (hasP (m.2.2 0)) M (C * R)) 0 (mm m z) ∧ (kX12_digest_L93 fu (foundQ (m.2.2 0) (hasP (m.2.2 0)) M (C * R)) 0 (mm m z) → kX12_digest_L69 n (foundQ (m.2.2 0) (hasP (m.2.2 0)) M (C * R)) (nI i) (mm m g)) ∧ SV (m.2.2 0) (hasP (m.2.2 0)) M (C * R) s' ∧ s'.1 = s.1 := by
  have hl := h.le
  intro n
  induction n with
  | zero => intro c h1 h2; omega
  | succ n ih =>
    intro i h1 h2 s g hV
    show ∃ (z : Int64) (s' : SS), bX11_mixMicrophones_L14 (pX11_mixMicrophones_L14 n) _ _ _ _ _ = _ ∧ kbX11_mixMicrophones_L14 (kX11_mixMicrophones_L14 n) _ _ _ _ _ ∧ bX12_digest_L69 (pX12_digest_L69 n) _ _ _ = _ ∧ (_ → kbX12_digest_L69 (kX12_digest_L69 n) _ _ _) ∧ _
    unfold bX11_mixMicrophones_L14 kbX11_mixMicrophones_L14 bX12_digest_L69 kbX12_digest_L69
    rw [mm_3, h.eM, h.b4]
    by_cases e : i = M
    · rw [e]
      simp only [if_pos (nI_le (Nat.le_refl M) (show M < 2 ^ 31 by omega))]
      exact ⟨g, s, rfl, trivial, rfl, fun hk => hk, hV, rfl⟩
    · have hi : i < M := by omega
      obtain ⟨F, b1, b2⟩ := blame_c h (fun i _ hp => hp) hV hi
      obtain ⟨s1, hs1⟩ : ∃ s1, s1 = (if s.1 1 = -1000000000 then s else ssa s 3 F) := ⟨_, rfl⟩
      have hs : SV (m.2.2 0) (hasP (m.2.2 0)) M (C * R) s1 ∧ s1.1 = s.1 := by
        rw [hs1]
        split
        · exact ⟨hV, rfl⟩
        · exact ⟨SV_ssa3 hV F, rfl⟩
      rw [← hs1] at b1
      obtain ⟨a1, a2⟩ := m26_L (kk := kk) h hi (pX11_mixMicrophones_L14 n) (kX11_mixMicrophones_L14 n) s fu 0 (by omega) (by have := fu_ge; omega) g
      rw [b1] at a1 a2
      obtain ⟨d1, d2⟩ := mic_d h hi g
      simp only [if_neg (nI_ge hi (show M < 2 ^ 31 by omega)), d1, lt, nI_1]
      obtain ⟨z, s', r1, r2, r3, r4, r5, r6⟩ := ih (i + 1) (by omega) (by omega) s1 (mx (mxf (colV m i) 9 0 g) (blameQ (m.2.2 0) (hasP (m.2.2 0)) M (C * R) i)) hs.1
      exact ⟨z, s', a1.trans r1, a2 ⟨b2, r2⟩, r3, fun hk => ⟨d2, r4 hk⟩, r5, r6.trans hs.2⟩
theorem whole_L (h : BR C R M W N b (m.2.2 0)) {s : SS} (hF : FV (m.2.2 0) (hasP (m.2.2 0)) M (C * R) m) (hV : SV (m.2.2 0) (hasP (m.2.2 0)) M (C * R) s) : ∀ (n k : Nat), k ≤ 11 → 11 - k < n → ∀ g : Int64, ∃ z : Int64, ∃ n' : Nat, pX11_digest_L54 n g (nI k) s u b x kk = pX11_digest_L54 (n' + 1) z 11 s u b x kk ∧ (kX11_digest_L54 (n' + 1) z 11 s u b x kk → kX11_digest_L54 n g (nI k) s u b x kk) ∧ pX12_digest_L45 n (foundQ (m.2.2 0) (hasP (m.2.2 0)) M (C * R)) (nI k) (mm m g) = pX12_digest_L69 fu (foundQ (m.2.2 0) (hasP (m.2.2 0)) M (C * R)) 0 (mm m z) ∧ (kX12_digest_L69 fu (foundQ (m.2.2 0) (hasP (m.2.2 0)) M (C * R)) 0 (mm m z) → kX12_digest_L45 n (foundQ (m.2.2 0) (hasP (m.2.2 0)) M (C * R)) (nI k) (mm m g)) := by
  intro n
  induction n with
  | zero => intro c h1 h2; omega
  | succ n ih =>
    intro k h1 h2 g
    by_cases e : k = 11
    · rw [e]
      refine ⟨g, n, rfl, fun hk => hk, ?_, ?_⟩
      · show bX12_digest_L45 (pX12_digest_L45 n) _ _ _ = _
        unfold bX12_digest_L45
        rw [if_pos (show (11 : Int32) ≤ nI 11 by decide)]
      · intro hk
        show kbX12_digest_L45 (kX12_digest_L45 n) _ _ _
        unfold kbX12_digest_L45
        rw [if_pos (show (11 : Int32) ≤ nI 11 by decide)]
        exact hk
    · have hb : BR C R M W N b ((mm m g).2.2 0) := h
      have hF' : FV ((mm m g).2.2 0) (hasP ((mm m g).2.2 0)) M (C * R) (mm m g) := hF
      obtain ⟨v1, v2, v3⟩ := wholeV (kk := kk) hb (s := s) hF' (show k ≤ 10 by omega) (fun _ => hV)
      have v1 : pX11_valueOfWhole s b kk (nI k) = pX12_wholeOf (mm m g) (nI k) (foundQ (m.2.2 0) (hasP (m.2.2 0)) M (C * R)) := v1
      have n1 : ¬ (10 : Int32) < nI k := nI_nlt (a := 10) (b := k) (by omega) (by omega)
      have n2 : ¬ (11 : Int32) ≤ nI k := nI_ge (b := 11) (by omega) (by omega)
      obtain ⟨z, n', r1, r2, r3, r4⟩ := ih (k + 1) (by omega) (by omega) (mx g (pX11_valueOfWhole s b kk (nI k)))
      refine ⟨z, n', ?_, ?_, ?_, ?_⟩
      · show bX11_digest_L54 (pX11_digest_L54 n) _ _ _ _ _ _ _ = _
        unfold bX11_digest_L54
        rw [if_neg n1]
        simp only [lt, nI_1, mx_c]
        exact r1
      · intro hk
        show kbX11_digest_L54 (kX11_digest_L54 n) _ _ _ _ _ _ _
        unfold kbX11_digest_L54
        rw [if_neg n1]
        simp only [lt, nI_1, mx_c]
        exact ⟨v2, r2 hk⟩
      · show bX12_digest_L45 (pX12_digest_L45 n) _ _ _ = _
        unfold bX12_digest_L45
        rw [if_neg n2]
        simp only [lt, nI_1, mm_mix]
        rw [← v1]
        exact r3
      · intro hk
        show kbX12_digest_L45 (kX12_digest_L45 n) _ _ _
        unfold kbX12_digest_L45
        rw [if_neg n2]
        simp only [lt, nI_1, mm_mix]
        rw [← v1]
        exact ⟨v3, r4 hk⟩
theorem digest_op (h : SR b s9 u x kk m) : ∃ (r : Int64) (s' : SS), pX11_digest s9 u b x kk = (r, s', u, b, x, kk) ∧ kX11_digest s9 u b x kk ∧ kX12_digest m ∧ SR b s' u x kk (pX12_digest m).2 ∧ r = (pX12_digest m).1 := by
  have hh := h
  obtain ⟨⟨C, R, M, W, N, h1, hv⟩, h2, h3, h4⟩ := hh
  have hl := h1.le
  have hCR : C * R ≤ 20 * 20 := Nat.mul_le_mul (by omega) (by omega)
  obtain ⟨s1, t1, t2, t3, t4, t5⟩ := take_all h1 hv
  have h1' : BR C R M W N b ((msi m 3 0).2.2 0) := h1
  obtain ⟨m1, f1, f2, f3, f4⟩ := find_all h1'
  have f1 : pX12_finds (msi m 3 0) (-1000000000) = (foundQ (m.2.2 0) (hasP (m.2.2 0)) M (C * R), m1) := f1
  have f3 : FV (m.2.2 0) (hasP (m.2.2 0)) M (C * R) m1 := f3
  have eS : m1.2.2 0 = m.2.2 0 := f4.eS
  have hb : BR C R M W N b (m1.2.2 0) := by rw [eS]; exact h1
  have kp : keeps m m1 := (keeps_i m 0 (k := 3) ⟨by decide, by decide, by decide, by decide⟩).trans f4.keeps
  obtain ⟨P, hP⟩ := h2
  obtain ⟨nx, -, -, u0, u1, -, -⟩ := hP
  obtain ⟨nn, -, x1, x2, -⟩ := h3
  have a0 : m1.1 0 = u.1 1 := by rw [kp.1, u0, u1]
  have a1 : m1.1 1 = x.1 := by rw [kp.2.1, x2, x1]
  have a2 : m1.1 2 = kk := by rw [kp.2.2.1, h4]
  rw [← eS] at t3 f3
  have f1' : pX12_finds (msi m 3 0) (-1000000000) = (foundQ (m1.2.2 0) (hasP (m1.2.2 0)) M (C * R), m1) := by rw [eS]; exact f1
  obtain ⟨z1, n', w1, w2, w3, w4⟩ := whole_L (u := u) (x := x) (kk := kk) hb f3 t3 fu 0 (by omega) (by have := fu_ge; omega) (mx (mx (mx 18879 (u.1 1)) x.1) kk)
  obtain ⟨z2, s2, q1, q2, q3, q4, q5, q6⟩ := mics_L (kk := kk) hb fu 0 (by omega) (by have := fu_ge; omega) s1 z1 t3
  obtain ⟨⟨c1, c2⟩, ⟨c3, c4⟩, ⟨c5, c6⟩⟩ := (⟨(mixTable_eq (kk := kk) hb z2).1, (mixTable_eq (kk := kk) hb (mxf (fun k => m1.2.2 0 (94 + k)) (3 * W) 0 z2)).2.1, (mixTable_eq (kk := kk) hb (mxf (fun k => m1.2.2 0 (106 + k)) (4 * N) 0 (mxf (fun k => m1.2.2 0 (94 + k)) (3 * W) 0 z2))).2.2⟩ : _ ∧ _ ∧ _)
  obtain ⟨d1, d2⟩ := d93_L hb (foundQ (m1.2.2 0) (hasP (m1.2.2 0)) M (C * R)) fu 0 (by omega) (by have := fu_ge; omega) z2
  obtain ⟨d3, d4⟩ := d128_L hb (foundQ (m1.2.2 0) (hasP (m1.2.2 0)) M (C * R)) fu 0 (by omega) (by have := fu_ge; omega) (mxf (fun k => m1.2.2 0 (94 + k)) (3 * W) 0 z2)
  obtain ⟨z, d5, d6, d7⟩ := d163_L hb (foundQ (m1.2.2 0) (hasP (m1.2.2 0)) M (C * R)) fu 0 (by omega) (by have := fu_ge; omega) (mxf (fun k => m1.2.2 0 (106 + k)) (4 * N) 0 (mxf (fun k => m1.2.2 0 (94 + k)) (3 * W) 0 z2))
  have d5 : z = mx (mxf (fun k => m1.2.2 0 (7 + k)) 7 0 (mxf (fun k => m1.2.2 0 (106 + k)) (4 * N) 0 (mxf (fun k => m1.2.2 0 (94 + k)) (3 * W) 0 z2))) (foundQ (m1.2.2 0) (hasP (m1.2.2 0)) M (C * R)) := d5
  have hz : BR C R M W N b ((mm m1 z).2.2 0) := hb
  obtain ⟨s3, e1, e2, e3, e4, e5, e6, e7⟩ := suspect_eq hz (s := s2) q5
  have e1 : pX8_mostBlamed s2 b = (pX12_suspectBy (mm m1 z) (foundQ (m1.2.2 0) (hasP (m1.2.2 0)) M (C * R)), s3, b) := e1
  obtain ⟨zz, g1, g2, g3, g4⟩ := cells_L (kk := kk) hb f3 e4 fu 0 (by omega) (by have := fu_ge; omega) (mx z (pX12_suspectBy (mm m1 z) (foundQ (m1.2.2 0) (hasP (m1.2.2 0)) M (C * R))))
  have best : s2.1 1 = foundQ (m1.2.2 0) (hasP (m1.2.2 0)) M (C * R) := foundQ_s q5
  -- the class's end
  have E : pX11_digest_L54 (n' + 1) z1 11 s1 u b x kk = (zz, s3, u, b, x, kk) ∧ kX11_digest_L54 (n' + 1) z1 11 s1 u b x kk := by
    show bX11_digest_L54 (pX11_digest_L54 n') _ _ _ _ _ _ _ = _ ∧ kbX11_digest_L54 (kX11_digest_L54 n') _ _ _ _ _ _ _
    unfold bX11_digest_L54 kbX11_digest_L54 pX11_mixMicrophones kX11_mixMicrophones pX11_mixCells kX11_mixCells
    rw [if_pos (show (10 : Int32) < 11 by decide), if_pos (show (10 : Int32) < 11 by decide)]
    have q1 : pX11_mixMicrophones_L14 fu z1 0 s1 b kk = (z2, s2, b, kk) := q1
    have g1 : pX11_mixCells_L5 s3 b kk fu (mx z (pX12_suspectBy (mm m1 z) (foundQ (m1.2.2 0) (hasP (m1.2.2 0)) M (C * R)))) 0 = zz := g1
    rw [q1]
    simp only [bd, lt, c1, c3, c5, mx_c, best]
    rw [← d5, e1]
    simp only [g1]
    exact ⟨trivial, q2, c2, c4, c6, e2, g3⟩
  have D : pX12_digest m = (zz, mm m1 zz) ∧ kX12_digest m := by
    unfold pX12_digest kX12_digest
    simp only [lt]
    rw [f1']
    simp only [bd]
    have i0 : msj m1 1 18879 = mm m1 18879 := rfl
    simp only [i0, mm_mix, mm_1, a0, a1, a2]
    have w3 : pX12_digest_L45 fu (foundQ (m1.2.2 0) (hasP (m1.2.2 0)) M (C * R)) 0 (mm m1 (mx (mx (mx 18879 (u.1 1)) x.1) kk)) = _ := w3
    have q3 : pX12_digest_L69 fu (foundQ (m1.2.2 0) (hasP (m1.2.2 0)) M (C * R)) 0 (mm m1 z1) = _ := q3
    rw [w3, q3]
    have d1 : pX12_digest_L93 fu (foundQ (m1.2.2 0) (hasP (m1.2.2 0)) M (C * R)) 0 (mm m1 z2) = _ := d1
    have d3 : pX12_digest_L128 fu (foundQ (m1.2.2 0) (hasP (m1.2.2 0)) M (C * R)) 0 (mm m1 (mxf (fun k => m1.2.2 0 (94 + k)) (3 * W - 0) 0 z2)) = _ := d3
    rw [d1, d3]
    refine ⟨d6.trans g2, f2, w4 (q4 (d2 (d4 (d7 e3 g4))))⟩
  unfold pX11_digest kX11_digest
  rw [t1]
  simp only [lt, mx_c]
  have w1 : pX11_digest_L54 fu (mx (mx (mx 18879 (u.1 1)) x.1) kk) 0 s1 u b x kk = _ := w1
  rw [w1, E.1, D.1]
  have kz : keeps m (mm m1 zz) := kp.trans ⟨rfl, rfl, rfl, rfl, rfl, rfl, rfl⟩
  refine ⟨zz, s3, rfl, ⟨t2, w2 E.2⟩, D.2, SR.surv ⟨C, R, M, W, N, ?_⟩ h kz, rfl⟩
  show BR C R M W N b (m1.2.2 0) ∧ VR (m1.2.2 0) M (C * R) s3
  exact ⟨hb, VR_of hl.2.2.1 e4 (by rw [e5, q6]; exact t5)⟩
end DIGEST
