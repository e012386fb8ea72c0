/-! PURE: texts of commands: the class's reader -/
section CREAD
theorem dsi_eq (m : RS) (k : Nat) (v : Int32) : (dsi m k v).1 k = v := upd_eq _ _ _
theorem dsi_ne (m : RS) {k j : Nat} (v : Int32) (h : j ≠ k) : (dsi m k v).1 j = m.1 j := upd_ne _ _ h
theorem dse_i (m : RS) (v : Option Nat) : (dse m v).1 = m.1 := rfl
noncomputable def RD (x : TS) (n e p : Nat) (rd : RS) : Int32 × RS × TS := pX4_read_L12 (n - p + 1 + e) (nI p) rd x
def KD (x : TS) (n e p : Nat) (rd : RS) : Prop := kX4_read_L12 (n - p + 1 + e) (nI p) rd x
/-- from here the reader goes on as from there -/
def goR (x : TS) (n e p : Nat) (rd : RS) (p' : Nat) (rd' : RS) : Prop := RD x n e p rd = RD x n e p' rd' ∧ (KD x n e p' rd' → KD x n e p rd)
/-- from here the reader ends with the fault r -/
def stR (x : TS) (n e p : Nat) (rd : RS) (r : Int32) : Prop := ∃ rd' : RS, RD x n e p rd = (r, rd', x) ∧ KD x n e p rd
variable {x : TS} {n e p c i k : Nat} {rd rd' : RS}
theorem goR.rfl' : goR x n e p rd p rd := ⟨rfl, fun h => h⟩
theorem goR.trans {p1 p2 p3 : Nat} {r1 r2 r3 : RS} (h : goR x n e p1 r1 p2 r2) (g : goR x n e p2 r2 p3 r3) : goR x n e p1 r1 p3 r3 := ⟨h.1.trans g.1, fun k => h.2 (g.2 k)⟩
theorem goR.st {p1 p2 : Nat} {r1 r2 : RS} {r : Int32} (h : goR x n e p1 r1 p2 r2) (g : stR x n e p2 r2 r) : stR x n e p1 r1 r := by
  obtain ⟨rd', g1, g2⟩ := g
  exact ⟨rd', h.1.trans g1, h.2 g2⟩
theorem at_of {T : Nat → Int32} {a z : Int32} (h : p < n) : atB T n a z p = pX12_in (T p) a z := by unfold atB; simp [h]
theorem rd_go (hx : x.1 = nI n) (hn : n ≤ 150) (hp : p < n) (hs : pX4_step rd x (nI p) = (-1000000000, rd', x)) (ks : kX4_step rd x (nI p)) : goR x n e p rd (p + 1) rd' := by
  have en : n - p + 1 + e = (n - (p + 1) + 1 + e) + 1 := by omega
  have hl : ¬ nI n ≤ nI p := nI_ge hp (by omega)
  unfold goR RD KD
  rw [en]
  refine ⟨?_, fun h => ?_⟩
  · show bX4_read_L12 _ _ _ _ = _
    unfold bX4_read_L12
    rw [hx, if_neg hl, hs]
    simp only [bd, lt, if_true]
    rw [nI_1]
  · show kbX4_read_L12 _ _ _ _
    unfold kbX4_read_L12
    rw [hx, if_neg hl, hs]
    simp only [bd, lt, if_true]
    rw [nI_1]
    exact ⟨ks, h⟩
theorem rd_stop (hx : x.1 = nI n) (hn : n ≤ 150) (hp : p < n) {r : Int32} (hs : pX4_step rd x (nI p) = (r, rd', x)) (hr : ¬ r = -1000000000) (ks : kX4_step rd x (nI p)) : stR x n e p rd r := by
  have en : n - p + 1 + e = (n - (p + 1) + 1 + e) + 1 := by omega
  have hl : ¬ nI n ≤ nI p := nI_ge hp (by omega)
  unfold stR RD KD
  rw [en]
  refine ⟨rd', ?_, ?_⟩
  · show bX4_read_L12 _ _ _ _ = _
    unfold bX4_read_L12
    rw [hx, if_neg hl, hs]
    simp only [bd]
    rw [if_neg hr]
  · show kbX4_read_L12 _ _ _ _
    unfold kbX4_read_L12
    rw [hx, if_neg hl, hs]
    simp only [bd]
    rw [if_neg hr]
    exact ⟨ks, trivial⟩
theorem rd_end (hx : x.1 = nI n) (hn : n ≤ 150) : RD x n e n rd = (if rd.1 1 = 0 then (-1000000000, rd, x) else if rd.1 1 = 1 then (if pX5_commandAt x (rd.1 2) (nI n) = none then (rd.1 2, rd, x) else (nI n, rd, x)) else (nI n, rd, x)) ∧ KD x n e n rd := by
  have en : n - n + 1 + e = e + 1 := by omega
  have hl : nI n ≤ nI n := nI_le (Nat.le_refl _) (by omega)
  unfold RD KD
  rw [en]
  refine ⟨?_, ?_⟩
  · show bX4_read_L12 _ _ _ _ = _
    unfold bX4_read_L12 pX4_read_L78 pX4_read_L79
    rw [hx, if_pos hl]
    rfl
  · show kbX4_read_L12 _ _ _ _
    unfold kbX4_read_L12
    rw [hx, if_pos hl]
    trivial
theorem step_0 (hn : n ≤ 150) (hp : p < n) (h : rd.1 1 = 0) : pX4_step rd x (nI p) = ((pX4_stepInFront rd (x.2 p) (nI p)).1, (pX4_stepInFront rd (x.2 p) (nI p)).2, x) ∧ kX4_step rd x (nI p) := by
  unfold pX4_step kX4_step
  rw [byteAt_eq x (by omega)]
  simp only [lt, bd]
  rw [if_pos h, if_pos h]
  exact ⟨rfl, byteAt_k x _, trivial⟩
theorem step_1 (hn : n ≤ 150) (hp : p < n) (h : rd.1 1 = 1) : pX4_step rd x (nI p) = ((pX4_stepInWord rd x (x.2 p) (nI p)).1, (pX4_stepInWord rd x (x.2 p) (nI p)).2.1, (pX4_stepInWord rd x (x.2 p) (nI p)).2.2) ∧ kX4_step rd x (nI p) := by
  have n0 : ¬ rd.1 1 = 0 := by rw [h]; decide
  unfold pX4_step kX4_step
  rw [byteAt_eq x (by omega)]
  simp only [lt, bd]
  rw [if_neg n0, if_neg n0, if_pos h, if_pos h]
  exact ⟨rfl, byteAt_k x _, trivial⟩
theorem step_2 (hn : n ≤ 150) (hp : p < n) (h : rd.1 1 = 2) (kg : kX4_stepInGap rd (x.2 p) (nI p)) : pX4_step rd x (nI p) = ((pX4_stepInGap rd (x.2 p) (nI p)).1, (pX4_stepInGap rd (x.2 p) (nI p)).2, x) ∧ kX4_step rd x (nI p) := by
  have n0 : ¬ rd.1 1 = 0 := by rw [h]; decide
  have n1 : ¬ rd.1 1 = 1 := by rw [h]; decide
  unfold pX4_step kX4_step
  rw [byteAt_eq x (by omega)]
  simp only [lt, bd]
  rw [if_neg n0, if_neg n0, if_neg n1, if_neg n1, if_pos h, if_pos h]
  exact ⟨rfl, byteAt_k x _, kg⟩
theorem step_3 (hn : n ≤ 150) (hp : p < n) (h : rd.1 1 = 3) (kg : kX4_stepInNumber rd (x.2 p) (nI p)) : pX4_step rd x (nI p) = ((pX4_stepInNumber rd (x.2 p) (nI p)).1, (pX4_stepInNumber rd (x.2 p) (nI p)).2, x) ∧ kX4_step rd x (nI p) := by
  have n0 : ¬ rd.1 1 = 0 := by rw [h]; decide
  have n1 : ¬ rd.1 1 = 1 := by rw [h]; decide
  have n2 : ¬ rd.1 1 = 2 := by rw [h]; decide
  unfold pX4_step kX4_step
  rw [byteAt_eq x (by omega)]
  simp only [lt, bd]
  rw [if_neg n0, if_neg n0, if_neg n1, if_neg n1, if_neg n2, if_neg n2]
  exact ⟨rfl, byteAt_k x _, kg⟩
theorem letter_at (hp : p < n) : pX4_isLetter (x.2 p) = atB x.2 n 97 122 p := by
  rw [at_of hp]; rfl
theorem digit_at (hp : p < n) : pX4_isDigit (x.2 p) = atB x.2 n 48 57 p := by
  rw [at_of hp]; rfl
/-- in front of a command -/
theorem front_sp (hx : x.1 = nI n) (hn : n ≤ 150) (h0 : rd.1 1 = 0) (p : Nat) : goR x n e p rd (sk x.2 n p) rd := by
  refine sc_ind (T := x.2) (n := n) (a := 32) (z := 32) (P := fun p => goR x n e p rd (sk x.2 n p) rd) (fun p h ih => ?_) (fun p h => ?_) p
  · have hp := at_lt h
    have hb := (at_eq1.mp h).2
    rw [show sk x.2 n p = sk x.2 n (p + 1) from sc_yes h]
    obtain ⟨s1, s2⟩ := step_0 (x := x) (rd := rd) hn hp h0
    refine (rd_go hx hn hp (rd' := rd) ?_ s2).trans ih
    rw [s1]
    unfold pX4_stepInFront
    rw [if_pos hb]
  · rw [show sk x.2 n p = p from sc_no h]
    exact goR.rfl'
theorem front_no (hx : x.1 = nI n) (hn : n ≤ 150) (h0 : rd.1 1 = 0) (hp : p < n) (h1 : ¬ atB x.2 n 32 32 p = true) (h2 : ¬ atB x.2 n 97 122 p = true) : stR x n e p rd (nI p) := by
  obtain ⟨s1, s2⟩ := step_0 (x := x) (rd := rd) hn hp h0
  have hb : ¬ x.2 p = 32 := fun q => h1 (at_eq1.mpr ⟨hp, q⟩)
  refine rd_stop hx hn hp (rd' := rd) (r := nI p) ?_ (nI_nNO (by omega)) s2
  rw [s1]
  unfold pX4_stepInFront
  rw [if_neg hb, letter_at hp, if_neg h2]
theorem front_yes (hx : x.1 = nI n) (hn : n ≤ 150) (h0 : rd.1 1 = 0) (h2 : atB x.2 n 97 122 p = true) : goR x n e p rd (p + 1) (dsi (dsi rd 2 (nI p)) 1 1) := by
  have hp := at_lt h2
  obtain ⟨s1, s2⟩ := step_0 (x := x) (rd := rd) hn hp h0
  have hb : ¬ x.2 p = 32 := fun q => by
    have := (at_in2 h2).1
    rw [q] at this
    exact absurd this (by decide)
  refine rd_go hx hn hp ?_ s2
  rw [s1]
  unfold pX4_stepInFront
  rw [if_neg hb, letter_at hp, if_pos h2]
  rfl
/-- in a word -/
theorem word_L (hx : x.1 = nI n) (hn : n ≤ 150) (h1 : rd.1 1 = 1) (q : Nat) : goR x n e q rd (wl x.2 n q) rd := by
  refine sc_ind (T := x.2) (n := n) (a := 97) (z := 122) (P := fun q => goR x n e q rd (wl x.2 n q) rd) (fun q h ih => ?_) (fun q h => ?_) q
  · have hq := at_lt h
    rw [show wl x.2 n q = wl x.2 n (q + 1) from sc_yes h]
    obtain ⟨s1, s2⟩ := step_1 (x := x) (rd := rd) hn hq h1
    refine (rd_go hx hn hq (rd' := rd) ?_ s2).trans ih
    rw [s1]
    unfold pX4_stepInWord
    rw [letter_at hq, if_pos h]
  · rw [show wl x.2 n q = q from sc_no h]
    exact goR.rfl'
/-- in a gap: k numbers of the command i are read -/
def GS (c i k : Nat) (rd : RS) : Prop := rd.1 0 = nI c ∧ rd.1 1 = 2 ∧ rd.1 3 = nI k ∧ rd.2.2.2 = some i
/-- in a number, of which d digits are read -/
def NS (c i k d : Nat) (rd : RS) : Prop := rd.1 0 = nI c ∧ rd.1 1 = 3 ∧ rd.1 3 = nI k ∧ rd.2.2.2 = some i ∧ rd.1 4 = nI d
/-- what lies before is kept -/
def FR (c k : Nat) (rd rd' : RS) : Prop := (∀ j, j < c * 4 + k → rd'.2.1 j = rd.2.1 j) ∧ rd'.2.2.1 = rd.2.2.1
theorem FR.rfl' : FR c k rd rd := ⟨fun _ _ => rfl, rfl⟩
theorem FR.trans {r1 r2 r3 : RS} {k' : Nat} (h : FR c k r1 r2) (hk : k ≤ k') (g : FR c k' r2 r3) : FR c k r1 r3 := ⟨fun j hj => (g.1 j (by omega)).trans (h.1 j hj), g.2.trans h.2⟩
theorem hasAll_eq (hi : i < 7) (hk : k ≤ 10) (h3 : rd.1 3 = nI k) (hc : rd.2.2.2 = some i) : pX4_hasAllNumbers rd = decide (enM i ≤ k) ∧ kX4_hasAllNumbers rd := by
  obtain ⟨-, -, -, q4, -, q6⟩ := wc_ok i hi
  have nn : ¬ rd.2.2.2 = none := by rw [hc]; exact fun h => by cases h
  unfold pX4_hasAllNumbers kX4_hasAllNumbers pX4_hasAllNumbers_L21
  rw [if_neg nn, if_neg nn, h3, hc, q6]
  refine ⟨?_, ⟨i, hi, rfl⟩⟩
  by_cases c : k < enM i
  · rw [if_pos (nI_lt c (by omega))]; simp; omega
  · rw [if_neg (nI_nlt (by omega) (by omega))]; simp; omega
theorem putN_eq (hc : c ≤ 18) (hk : k < 4) (h0 : rd.1 0 = nI c) (h3 : rd.1 3 = nI k) (v : Int32) : ∃ rd', pX4_putNumber rd v = rd' ∧ kX4_putNumber rd v ∧ rd'.1 = rd.1 ∧ rd'.2.2 = rd.2.2 ∧ FR c k rd rd' ∧ (c < 18 → rd'.2.1 (c * 4 + k) = v) := by
  unfold pX4_putNumber kX4_putNumber
  rw [h0, h3]
  by_cases c1 : c < 18
  · rw [if_neg (show ¬ (18 : Int32) ≤ nI c from nI_ge (b := 18) c1 (by omega)), if_neg (show ¬ (18 : Int32) ≤ nI c from nI_ge (b := 18) c1 (by omega)), if_neg (show ¬ (4 : Int32) ≤ nI k from nI_ge (b := 4) hk (by omega)), if_neg (show ¬ (4 : Int32) ≤ nI k from nI_ge (b := 4) hk (by omega))]
    rw [show (4 : Int32) = nI 4 from rfl, pk_mul, nI_add, nI_clamp (by omega)]
    simp only [lt]
    exact ⟨_, rfl, vp_in_n (by omega) (by omega), rfl, rfl, ⟨fun j hj => upd_ne _ _ (by omega), rfl⟩, fun _ => upd_eq _ _ _⟩
  · rw [if_pos (show (18 : Int32) ≤ nI c from nI_le (a := 18) (by omega) (by omega)), if_pos (show (18 : Int32) ≤ nI c from nI_le (a := 18) (by omega) (by omega))]
    exact ⟨rd, rfl, trivial, rfl, rfl, FR.rfl', fun h => absurd h c1⟩
theorem numOf_eq (hc : c ≤ 18) (hk : k < 4) : (c < 18 → pX4_numberOf rd (nI c) (nI k) = rd.2.1 (c * 4 + k)) ∧ kX4_numberOf rd (nI c) (nI k) := by
  have b2 : pX11_isBetween (nI k) 0 3 = true := by
    rw [in_eq]
    refine (in_iff _ _ _).mpr ⟨?_, ?_⟩ <;> rw [nI_toInt (by omega)]
    · show (0 : Int) ≤ k; omega
    · show (k : Int) ≤ 3; omega
  unfold pX4_numberOf kX4_numberOf pX4_numberOf_L23 kX4_numberOf_L23 pX4_numberOf_L24 kX4_numberOf_L24
  rw [if_pos b2, if_pos b2]
  by_cases c1 : c < 18
  · have b1 : pX11_isBetween (nI c) 0 17 = true := by
      rw [in_eq]
      refine (in_iff _ _ _).mpr ⟨?_, ?_⟩ <;> rw [nI_toInt (by omega)]
      · show (0 : Int) ≤ c; omega
      · show (c : Int) ≤ 17; omega
    rw [if_pos b1, if_pos b1, if_pos rfl, if_pos rfl, show (4 : Int32) = nI 4 from rfl, pk_mul, nI_add, nI_clamp (by omega)]
    exact ⟨fun _ => rfl, vp_in_n (by omega) (by omega)⟩
  · refine ⟨fun h => absurd h c1, ?_⟩
    by_cases b1 : pX11_isBetween (nI c) 0 17 = true
    · exfalso
      rw [in_eq] at b1
      have := ((in_iff _ _ _).mp b1).2
      rw [nI_toInt (by omega)] at this
      have this : (c : Int) ≤ 17 := this
      omega
    · rw [if_neg b1, if_neg (by decide)]
      trivial
theorem end_no (hi : i < 7) (hk : k < enM i) (h3 : rd.1 3 = nI k) (hc : rd.2.2.2 = some i) (a : Int32) : pX4_endCommand rd a = (a, rd) ∧ kX4_endCommand rd a := by
  obtain ⟨-, -, -, q4, -⟩ := wc_ok i hi
  obtain ⟨a1, a2⟩ := hasAll_eq (k := k) hi (by omega) h3 hc
  have nh : ¬ pX4_hasAllNumbers rd = true := by rw [a1]; simp; omega
  unfold pX4_endCommand kX4_endCommand
  rw [if_neg nh, if_neg nh]
  exact ⟨rfl, a2, trivial⟩
def endS (c i : Nat) (rd : RS) : RS := dsi (dsi (dsc rd (updO rd.2.2.1 c (some i))) 0 (nI (c + 1))) 1 0
theorem end_yes (hi : i < 7) (hc : c < 18) (h0 : rd.1 0 = nI c) (h3 : rd.1 3 = nI (enM i)) (hcm : rd.2.2.2 = some i) (a : Int32) : pX4_endCommand rd a = (-1000000000, endS c i rd) ∧ kX4_endCommand rd a := by
  obtain ⟨-, -, -, q4, -⟩ := wc_ok i hi
  obtain ⟨a1, a2⟩ := hasAll_eq (k := enM i) hi (by omega) h3 hcm
  have nh : pX4_hasAllNumbers rd = true := by rw [a1]; simp
  unfold pX4_endCommand kX4_endCommand pX4_endCommand_L41
  rw [if_pos nh, if_pos nh, h0, if_neg (show ¬ (18 : Int32) ≤ nI c from nI_ge (b := 18) hc (by omega)), if_neg (show ¬ (18 : Int32) ≤ nI c from nI_ge (b := 18) hc (by omega)), nI_clamp (by omega), hcm]
  simp only [lt]
  rw [show (dsc rd (updO rd.2.2.1 c (some i))).1 0 = nI c from h0, nI_1]
  exact ⟨rfl, a2, vp_in_n (by omega) (by omega), i, hi, rfl⟩
theorem end_fr (h0 : rd.1 0 = nI c) : (endS c i rd).1 0 = nI (c + 1) ∧ (endS c i rd).1 1 = 0 ∧ (endS c i rd).2.1 = rd.2.1 ∧ (endS c i rd).2.2.1 c = some i ∧ ∀ j, j < c → (endS c i rd).2.2.1 j = rd.2.2.1 j := by
  refine ⟨?_, ?_, rfl, if_pos rfl, fun j hj => if_neg (by omega)⟩
  · unfold endS
    rw [dsi_ne _ _ (show (0 : Nat) ≠ 1 by decide), dsi_eq]
  · unfold endS
    rw [dsi_eq]
theorem gap_sp (hx : x.1 = nI n) (hn : n ≤ 150) (h2 : rd.1 1 = 2) (h : atB x.2 n 32 32 p = true) : goR x n e p rd (p + 1) rd := by
  have hp := at_lt h
  have hb := (at_eq1.mp h).2
  have kg : kX4_stepInGap rd (x.2 p) (nI p) := by unfold kX4_stepInGap; rw [if_pos hb]; trivial
  obtain ⟨s1, s2⟩ := step_2 (x := x) (rd := rd) hn hp h2 kg
  refine rd_go hx hn hp (rd' := rd) ?_ s2
  rw [s1]
  unfold pX4_stepInGap
  rw [if_pos hb]
theorem gap_to (hx : x.1 = nI n) (hn : n ≤ 150) (h2 : rd.1 1 = 2) (h : atB x.2 n 32 32 p = true) : goR x n e (p + 1) rd p rd := by
  have hp := at_lt h
  have hb := (at_eq1.mp h).2
  refine ⟨(gap_sp hx hn h2 h).1.symm, fun q => ?_⟩
  have en : n - p + 1 + e = (n - (p + 1) + 1 + e) + 1 := by omega
  have hl : ¬ nI n ≤ nI p := nI_ge hp (by omega)
  unfold KD at q
  rw [en] at q
  have q : kbX4_read_L12 _ _ _ _ := q
  unfold kbX4_read_L12 at q
  have kg : kX4_stepInGap rd (x.2 p) (nI p) := by unfold kX4_stepInGap; rw [if_pos hb]; trivial
  obtain ⟨t1, t2⟩ := step_2 (x := x) (rd := rd) hn hp h2 kg
  have t3 : pX4_stepInGap rd (x.2 p) (nI p) = (-1000000000, rd) := by unfold pX4_stepInGap; rw [if_pos hb]
  rw [hx, if_neg hl, t1, t3] at q
  simp only [bd, lt, if_true] at q
  rw [nI_1] at q
  exact q.2
theorem gap_sk (hx : x.1 = nI n) (hn : n ≤ 150) (h2 : rd.1 1 = 2) (p : Nat) : goR x n e p rd (sk x.2 n p) rd := by
  refine sc_ind (T := x.2) (n := n) (a := 32) (z := 32) (P := fun p => goR x n e p rd (sk x.2 n p) rd) (fun p h ih => ?_) (fun p h => ?_) p
  · rw [show sk x.2 n p = sk x.2 n (p + 1) from sc_yes h]
    exact (gap_sp hx hn h2 h).trans ih
  · rw [show sk x.2 n p = p from sc_no h]
    exact goR.rfl'
/-- a gap ends at the end of the text, or at what is neither a space, nor a digit that is wanted, nor the semicolon that is wanted -/
theorem gap_no (hx : x.1 = nI n) (hn : n ≤ 150) (hi : i < 7) (hk : k ≤ enM i) (hg : GS c i k rd) (hp : p ≤ n) (h1 : ¬ atB x.2 n 32 32 p = true) (h2 : atB x.2 n 59 59 p = true → k < enM i) (h3 : atB x.2 n 48 57 p = true → k = enM i) : stR x n e p rd (nI p) := by
  obtain ⟨g0, g1, g2, g3⟩ := hg
  obtain ⟨-, -, -, q4, -⟩ := wc_ok i hi
  by_cases hpn : p < n
  · have hb : ¬ x.2 p = 32 := fun q => h1 (at_eq1.mpr ⟨hpn, q⟩)
    obtain ⟨a1, a2⟩ := hasAll_eq (k := k) hi (by omega) g2 g3
    by_cases c59 : x.2 p = 59
    · obtain ⟨e1, e2⟩ := end_no hi (h2 (at_eq1.mpr ⟨hpn, c59⟩)) g2 g3 (nI p)
      have kg : kX4_stepInGap rd (x.2 p) (nI p) := by unfold kX4_stepInGap; rw [if_neg hb, if_pos c59]; exact e2
      obtain ⟨s1, s2⟩ := step_2 (x := x) (rd := rd) hn hpn g1 kg
      refine rd_stop hx hn hpn (rd' := rd) (r := nI p) ?_ (nI_nNO (by omega)) s2
      rw [s1]
      unfold pX4_stepInGap
      rw [if_neg hb, if_pos c59, e1]
      rfl
    · by_cases cd : atB x.2 n 48 57 p = true
      · have ha : pX4_hasAllNumbers rd = true := by rw [a1, h3 cd]; simp
        have kg : kX4_stepInGap rd (x.2 p) (nI p) := by unfold kX4_stepInGap; rw [if_neg hb, if_neg c59, digit_at hpn, if_pos cd, if_pos ha]; exact ⟨a2, trivial⟩
        obtain ⟨s1, s2⟩ := step_2 (x := x) (rd := rd) hn hpn g1 kg
        refine rd_stop hx hn hpn (rd' := rd) (r := nI p) ?_ (nI_nNO (by omega)) s2
        rw [s1]
        unfold pX4_stepInGap
        rw [if_neg hb, if_neg c59, digit_at hpn, if_pos cd, if_pos ha]
      · have kg : kX4_stepInGap rd (x.2 p) (nI p) := by unfold kX4_stepInGap; rw [if_neg hb, if_neg c59, digit_at hpn, if_neg cd]; trivial
        obtain ⟨s1, s2⟩ := step_2 (x := x) (rd := rd) hn hpn g1 kg
        refine rd_stop hx hn hpn (rd' := rd) (r := nI p) ?_ (nI_nNO (by omega)) s2
        rw [s1]
        unfold pX4_stepInGap
        rw [if_neg hb, if_neg c59, digit_at hpn, if_neg cd]
  · have ep : p = n := by omega
    subst ep
    obtain ⟨e1, e2⟩ := rd_end (e := e) (rd := rd) hx hn
    refine ⟨rd, ?_, e2⟩
    rw [e1, g1, if_neg (by decide), if_neg (by decide)]
theorem gap_end (hx : x.1 = nI n) (hn : n ≤ 150) (hi : i < 7) (hg : GS c i (enM i) rd) (hc : c < 18) (h : atB x.2 n 59 59 p = true) : goR x n e p rd (p + 1) (endS c i rd) := by
  obtain ⟨g0, g1, g2, g3⟩ := hg
  have hp := at_lt h
  have hb := (at_eq1.mp h).2
  have n32 : ¬ x.2 p = 32 := by rw [hb]; decide
  obtain ⟨e1, e2⟩ := end_yes hi hc g0 g2 g3 (nI p)
  have kg : kX4_stepInGap rd (x.2 p) (nI p) := by unfold kX4_stepInGap; rw [if_neg n32, if_pos hb]; exact e2
  obtain ⟨s1, s2⟩ := step_2 (x := x) (rd := rd) hn hp g1 kg
  refine rd_go hx hn hp ?_ s2
  rw [s1]
  unfold pX4_stepInGap
  rw [if_neg n32, if_pos hb, e1]
  rfl
theorem not32_of_digit (h : atB x.2 n 48 57 p = true) : ¬ x.2 p = 32 ∧ ¬ x.2 p = 59 := by
  obtain ⟨h1, h2⟩ := at_in2 h
  refine ⟨fun q => ?_, fun q => ?_⟩
  · rw [q] at h1; exact absurd h1 (by decide)
  · rw [q] at h2; exact absurd h2 (by decide)
/-- the first digit of a number -/
theorem gap_dig (hx : x.1 = nI n) (hn : n ≤ 150) (hi : i < 7) (hc : c ≤ 18) (hk : k < enM i) (hg : GS c i k rd) (h : atB x.2 n 48 57 p = true) : ∃ rd', goR x n e p rd (p + 1) rd' ∧ NS c i k 1 rd' ∧ FR c k rd rd' ∧ (c < 18 → rd'.2.1 (c * 4 + k) = vlF x.2 1 p) := by
  obtain ⟨g0, g1, g2, g3⟩ := hg
  obtain ⟨-, -, -, q4, -⟩ := wc_ok i hi
  have hp := at_lt h
  obtain ⟨n32, n59⟩ := not32_of_digit h
  obtain ⟨a1, a2⟩ := hasAll_eq (k := k) hi (by omega) g2 g3
  have ha : ¬ pX4_hasAllNumbers rd = true := by rw [a1]; simp; omega
  obtain ⟨u, u1, u2, u3, u4, u5, u6⟩ := putN_eq (rd := rd) hc (show k < 4 by omega) g0 g2 (x.2 p - 48)
  have kg : kX4_stepInGap rd (x.2 p) (nI p) := by unfold kX4_stepInGap; rw [if_neg n32, if_neg n59, digit_at hp, if_pos h, if_neg ha]; exact ⟨a2, u2⟩
  obtain ⟨s1, s2⟩ := step_2 (x := x) (rd := rd) hn hp g1 kg
  refine ⟨dsi (dsi u 4 1) 1 3, rd_go hx hn hp ?_ s2, ⟨?_, dsi_eq _ _ _, ?_, ?_, ?_⟩, ⟨u5.1, u5.2⟩, fun hc8 => ?_⟩
  · rw [s1]
    unfold pX4_stepInGap
    rw [if_neg n32, if_neg n59, digit_at hp, if_pos h, if_neg ha, u1]
    rfl
  · rw [dsi_ne _ _ (show (0 : Nat) ≠ 1 by decide), dsi_ne _ _ (show (0 : Nat) ≠ 4 by decide), u3, g0]
  · rw [dsi_ne _ _ (show (3 : Nat) ≠ 1 by decide), dsi_ne _ _ (show (3 : Nat) ≠ 4 by decide), u3, g2]
  · show u.2.2.2 = _
    rw [u4]; exact g3
  · rw [dsi_ne _ _ (show (4 : Nat) ≠ 1 by decide), dsi_eq]; rfl
  · show u.2.1 _ = _
    rw [u6 hc8]
    show _ = 10 * (0 : Int32) + x.2 (p + 0) - 48
    rw [show (10 : Int32) * 0 = 0 from rfl, Int32.zero_add]
    rfl
/-- further digits -/
theorem num_L (hx : x.1 = nI n) (hn : n ≤ 150) (hi : i < 7) (hc : c ≤ 18) (hk : k < enM i) {r : Nat} : ∀ (d j : Nat), j + d = 5 → 1 ≤ j → r + j ≤ n → ∀ rd : RS, NS c i k j rd → (c < 18 → rd.2.1 (c * 4 + k) = vlF x.2 j r) →
    (atB x.2 n 48 57 (r + j + dgF x.2 n d (r + j)) = true → stR x n e (r + j) rd (nI (r + j + dgF x.2 n d (r + j)))) ∧
    (¬ atB x.2 n 48 57 (r + j + dgF x.2 n d (r + j)) = true → ∃ rd', goR x n e (r + j) rd (r + j + dgF x.2 n d (r + j)) rd' ∧ NS c i k (j + dgF x.2 n d (r + j)) rd' ∧ FR c k rd rd' ∧ (c < 18 → rd'.2.1 (c * 4 + k) = vlF x.2 (j + dgF x.2 n d (r + j)) r)) := by
  obtain ⟨-, -, -, q4, -⟩ := wc_ok i hi
  intro d
  induction d with
  | zero =>
    intro j hj h1 hr rd hs hv
    obtain ⟨g0, g1, g2, g3, g4⟩ := hs
    have ej : j = 5 := by omega
    subst ej
    refine ⟨fun h => ?_, fun _ => ⟨rd, goR.rfl', ⟨g0, g1, g2, g3, g4⟩, FR.rfl', hv⟩⟩
    have h : atB x.2 n 48 57 (r + 5) = true := h
    have hp := at_lt h
    obtain ⟨n32, n59⟩ := not32_of_digit h
    have h5 : ¬ rd.1 4 < 5 := by rw [g4]; exact nI_nlt (b := 5) (by omega) (by omega)
    have kg : kX4_stepInNumber rd (x.2 (r + 5)) (nI (r + 5)) := by unfold kX4_stepInNumber; rw [if_neg n32, if_neg n59, digit_at hp, if_pos h, if_neg h5]; trivial
    obtain ⟨s1, s2⟩ := step_3 (x := x) (rd := rd) hn hp g1 kg
    refine rd_stop hx hn hp (rd' := rd) (r := nI (r + 5)) ?_ (nI_nNO (by omega)) s2
    rw [s1]
    unfold pX4_stepInNumber
    rw [if_neg n32, if_neg n59, digit_at hp, if_pos h, if_neg h5]
  | succ d ih =>
    intro j hj h1 hr rd hs hv
    have hs' := hs
    obtain ⟨g0, g1, g2, g3, g4⟩ := hs
    have eD : dgF x.2 n (d + 1) (r + j) = if atB x.2 n 48 57 (r + j) = true then dgF x.2 n d (r + j + 1) + 1 else 0 := rfl
    by_cases h : atB x.2 n 48 57 (r + j) = true
    · rw [if_pos h] at eD
      have hp := at_lt h
      obtain ⟨n32, n59⟩ := not32_of_digit h
      have h5 : rd.1 4 < 5 := by rw [g4]; exact nI_lt (b := 5) (by omega) (by omega)
      obtain ⟨v1, v2⟩ := numOf_eq (rd := rd) hc (show k < 4 by omega)
      obtain ⟨u, u1, u2, u3, u4, u5, u6⟩ := putN_eq (rd := rd) hc (show k < 4 by omega) g0 g2 (10 * pX4_numberOf rd (nI c) (nI k) + x.2 (r + j) - 48)
      have kg : kX4_stepInNumber rd (x.2 (r + j)) (nI (r + j)) := by
        unfold kX4_stepInNumber
        rw [if_neg n32, if_neg n59, digit_at hp, if_pos h, if_pos h5, g0, g2]
        exact ⟨v2, u2⟩
      obtain ⟨s1, s2⟩ := step_3 (x := x) (rd := rd) hn hp g1 kg
      have e4 : u.1 4 = nI j := by rw [u3, g4]
      have hgo : goR x n e (r + j) rd (r + j + 1) (dsi u 4 (nI (j + 1))) := by
        refine rd_go hx hn hp ?_ s2
        rw [s1]
        unfold pX4_stepInNumber
        rw [if_neg n32, if_neg n59, digit_at hp, if_pos h, if_pos h5, g0, g2, u1]
        simp only [lt]
        rw [e4, nI_1]
      have hs2 : NS c i k (j + 1) (dsi u 4 (nI (j + 1))) := by
        refine ⟨?_, ?_, ?_, ?_, dsi_eq _ _ _⟩
        · rw [dsi_ne _ _ (show (0 : Nat) ≠ 4 by decide), u3, g0]
        · rw [dsi_ne _ _ (show (1 : Nat) ≠ 4 by decide), u3, g1]
        · rw [dsi_ne _ _ (show (3 : Nat) ≠ 4 by decide), u3, g2]
        · show u.2.2.2 = _
          rw [u4, g3]
      have hv2 : c < 18 → (dsi u 4 (nI (j + 1))).2.1 (c * 4 + k) = vlF x.2 (j + 1) r := fun hc8 => by
        show u.2.1 _ = _
        rw [u6 hc8, v1 hc8, hv hc8]
        rfl
      have ih2 := ih (j + 1) (by omega) (by omega) (by omega) _ hs2 hv2
      rw [show r + (j + 1) = r + j + 1 by omega] at ih2
      rw [eD, show r + j + (dgF x.2 n d (r + j + 1) + 1) = r + j + 1 + dgF x.2 n d (r + j + 1) by omega, show j + (dgF x.2 n d (r + j + 1) + 1) = j + 1 + dgF x.2 n d (r + j + 1) by omega]
      refine ⟨fun q => hgo.st (ih2.1 q), fun q => ?_⟩
      obtain ⟨rd', f1, f2, f3, f4⟩ := ih2.2 q
      exact ⟨rd', hgo.trans f1, f2, FR.trans (show FR c k rd (dsi u 4 (nI (j + 1))) from ⟨u5.1, u5.2⟩) (Nat.le_refl _) f3, f4⟩
    · rw [if_neg h] at eD
      rw [eD]
      exact ⟨fun q => absurd q h, fun _ => ⟨rd, goR.rfl', hs', FR.rfl', hv⟩⟩
/-- a number behind a space -/
theorem gap_num (hx : x.1 = nI n) (hn : n ≤ 150) (hi : i < 7) (hc : c ≤ 18) (hk : k < enM i) (hg : GS c i k rd) (h32 : atB x.2 n 32 32 p = true) :
    (nuO x.2 n p = true → ∃ rd' d, goR x n e p rd (nuE x.2 n p) rd' ∧ NS c i k d rd' ∧ FR c k rd rd' ∧ (c < 18 → rd'.2.1 (c * 4 + k) = nuV x.2 n p)) ∧ (¬ nuO x.2 n p = true → stR x n e p rd (nI (nuE x.2 n p))) := by
  have hr : sk x.2 n p ≤ n := sc_le (T := x.2) (n := n) (a := 32) (z := 32) (Nat.le_of_lt (at_lt h32))
  have hs := gap_sk (e := e) hx hn hg.2.1 p
  have hend : ¬ atB x.2 n 32 32 (sk x.2 n p) = true := sc_end (T := x.2) (n := n) (a := 32) (z := 32) p
  unfold nuO nuE nuV
  rw [if_pos h32, h32]
  by_cases h : atB x.2 n 48 57 (sk x.2 n p) = true
  · obtain ⟨r1, f1, f2, f3, f4⟩ := gap_dig (e := e) hx hn hi hc hk hg h
    have eD : dgF x.2 n 5 (sk x.2 n p) = dgF x.2 n 4 (sk x.2 n p + 1) + 1 := by
      show (if _ then _ else _) = _
      rw [if_pos h]
    have hl := at_lt h
    obtain ⟨g1, g2⟩ := num_L (e := e) hx hn hi hc hk (r := sk x.2 n p) 4 1 rfl (Nat.le_refl _) (by omega) r1 f2 f4
    rw [eD, show sk x.2 n p + (dgF x.2 n 4 (sk x.2 n p + 1) + 1) = sk x.2 n p + 1 + dgF x.2 n 4 (sk x.2 n p + 1) by omega]
    simp only [Nat.zero_lt_succ, decide_true, Bool.true_and, Bool.not_eq_true', Bool.not_eq_false]
    refine ⟨fun q => ?_, fun q => (hs.trans f1).st (g1 q)⟩
    obtain ⟨r2, w1, w2, w3, w4⟩ := g2 (by rw [q]; decide)
    rw [Nat.add_comm 1] at w2 w4
    exact ⟨r2, _, (hs.trans f1).trans w1, w2, f3.trans (Nat.le_refl _) w3, w4⟩
  · have eD : dgF x.2 n 5 (sk x.2 n p) = 0 := by
      show (if _ then _ else _) = _
      rw [if_neg h]
    rw [eD]
    simp only [Nat.lt_irrefl, decide_false, Bool.false_and, Bool.and_false, Bool.false_eq_true, false_implies, true_and, not_false_eq_true, forall_const, Nat.add_zero]
    exact hs.st (gap_no hx hn hi (Nat.le_of_lt hk) hg hr hend (fun _ => hk) (fun q => absurd q h))
/-- behind a number -/
theorem num_sp (hx : x.1 = nI n) (hn : n ≤ 150) {d : Nat} (hs : NS c i k d rd) (h : atB x.2 n 32 32 p = true) : ∃ rd', goR x n e p rd p rd' ∧ GS c i (k + 1) rd' ∧ rd'.2 = rd.2 := by
  obtain ⟨g0, g1, g2, g3, g4⟩ := hs
  have hp := at_lt h
  have hb := (at_eq1.mp h).2
  have kg : kX4_stepInNumber rd (x.2 p) (nI p) := by unfold kX4_stepInNumber; rw [if_pos hb]; trivial
  obtain ⟨s1, s2⟩ := step_3 (x := x) (rd := rd) hn hp g1 kg
  have hgo : goR x n e p rd (p + 1) (dsi (dsi rd 3 (nI (k + 1))) 1 2) := by
    refine rd_go hx hn hp ?_ s2
    rw [s1]
    unfold pX4_stepInNumber
    rw [if_pos hb, g2, nI_1]
    rfl
  have hG : GS c i (k + 1) (dsi (dsi rd 3 (nI (k + 1))) 1 2) := by
    refine ⟨?_, dsi_eq _ _ _, ?_, g3⟩
    · rw [dsi_ne _ _ (show (0 : Nat) ≠ 1 by decide), dsi_ne _ _ (show (0 : Nat) ≠ 3 by decide), g0]
    · rw [dsi_ne _ _ (show (3 : Nat) ≠ 1 by decide), dsi_eq]
  exact ⟨_, hgo.trans (gap_to hx hn hG.2.1 h), hG, rfl⟩
theorem num_end (hx : x.1 = nI n) (hn : n ≤ 150) (hi : i < 7) (hc : c < 18) {d : Nat} (hs : NS c i k d rd) (hk : k + 1 = enM i) (h : atB x.2 n 59 59 p = true) : ∃ rd', goR x n e p rd (p + 1) rd' ∧ rd'.1 0 = nI (c + 1) ∧ rd'.1 1 = 0 ∧ rd'.2.1 = rd.2.1 ∧ rd'.2.2.1 c = some i ∧ ∀ j, j < c → rd'.2.2.1 j = rd.2.2.1 j := by
  obtain ⟨g0, g1, g2, g3, g4⟩ := hs
  have hp := at_lt h
  have hb := (at_eq1.mp h).2
  have n32 : ¬ x.2 p = 32 := by rw [hb]; decide
  have h3 : (dsi rd 3 (nI (k + 1))).1 3 = nI (enM i) := by rw [← hk]; exact dsi_eq _ _ _
  have h0 : (dsi rd 3 (nI (k + 1))).1 0 = nI c := (dsi_ne _ _ (show (0 : Nat) ≠ 3 by decide)).trans g0
  obtain ⟨e1, e2⟩ := end_yes (rd := dsi rd 3 (nI (k + 1))) hi hc h0 h3 g3 (nI p)
  obtain ⟨f1, f2, f3, f4, f5⟩ := end_fr (i := i) h0
  have kg : kX4_stepInNumber rd (x.2 p) (nI p) := by unfold kX4_stepInNumber; rw [if_neg n32, if_pos hb, g2, nI_1]; exact e2
  obtain ⟨s1, s2⟩ := step_3 (x := x) (rd := rd) hn hp g1 kg
  refine ⟨_, rd_go hx hn hp ?_ s2, f1, f2, f3, f4, f5⟩
  rw [s1]
  unfold pX4_stepInNumber
  rw [if_neg n32, if_pos hb, g2, nI_1]
  simp only [lt, bd, e1]
theorem num_no (hx : x.1 = nI n) (hn : n ≤ 150) (hi : i < 7) {d : Nat} (hs : NS c i k d rd) (hk : k < enM i) (hp : p ≤ n) (h1 : ¬ atB x.2 n 32 32 p = true) (h2 : atB x.2 n 59 59 p = true → k + 1 < enM i) (h3 : ¬ atB x.2 n 48 57 p = true) : stR x n e p rd (nI p) := by
  obtain ⟨g0, g1, g2, g3, g4⟩ := hs
  by_cases hpn : p < n
  · have hb : ¬ x.2 p = 32 := fun q => h1 (at_eq1.mpr ⟨hpn, q⟩)
    by_cases c59 : x.2 p = 59
    · obtain ⟨e1, e2⟩ := end_no (rd := dsi rd 3 (nI (k + 1))) (k := k + 1) hi (h2 (at_eq1.mpr ⟨hpn, c59⟩)) (dsi_eq _ _ _) g3 (nI p)
      have kg : kX4_stepInNumber rd (x.2 p) (nI p) := by unfold kX4_stepInNumber; rw [if_neg hb, if_pos c59, g2, nI_1]; exact e2
      obtain ⟨s1, s2⟩ := step_3 (x := x) (rd := rd) hn hpn g1 kg
      refine rd_stop hx hn hpn (rd' := dsi rd 3 (nI (k + 1))) (r := nI p) ?_ (nI_nNO (by omega)) s2
      rw [s1]
      unfold pX4_stepInNumber
      rw [if_neg hb, if_pos c59, g2, nI_1]
      simp only [lt, bd, e1]
    · have kg : kX4_stepInNumber rd (x.2 p) (nI p) := by unfold kX4_stepInNumber; rw [if_neg hb, if_neg c59, digit_at hpn, if_neg h3]; trivial
      obtain ⟨s1, s2⟩ := step_3 (x := x) (rd := rd) hn hpn g1 kg
      refine rd_stop hx hn hpn (rd' := rd) (r := nI p) ?_ (nI_nNO (by omega)) s2
      rw [s1]
      unfold pX4_stepInNumber
      rw [if_neg hb, if_neg c59, digit_at hpn, if_neg h3]
  · have ep : p = n := by omega
    subst ep
    obtain ⟨e1, e2⟩ := rd_end (e := e) (rd := rd) hx hn
    refine ⟨rd, ?_, e2⟩
    rw [e1, g1, if_neg (by decide), if_neg (by decide)]
/-- the numbers of a command and its semicolon -/
def doneC (x : TS) (n c i k d s : Nat) (rd rd' : RS) : Prop := rd'.1 0 = nI (c + 1) ∧ rd'.1 1 = 0 ∧ rd'.2.2.1 c = some i ∧ (∀ j, j < c → rd'.2.2.1 j = rd.2.2.1 j) ∧ (∀ j, j < d → rd'.2.1 (c * 4 + (k + j)) = nuV x.2 n (nuK x.2 n j s)) ∧ ∀ j, j < c * 4 + k → rd'.2.1 j = rd.2.1 j
theorem nums_L (hx : x.1 = nI n) (hn : n ≤ 150) (hi : i < 7) (hc : c ≤ 18) : ∀ (d k : Nat), k + (d + 1) = enM i → ∀ (s : Nat) (rd : RS), GS c i k rd → atB x.2 n 32 32 s = true → ((nsF x.2 n (d + 1) s).1 = true → c < 18) →
    ((nsF x.2 n (d + 1) s).1 = true → ∃ rd', goR x n e s rd (nsF x.2 n (d + 1) s).2 rd' ∧ doneC x n c i k (d + 1) s rd rd') ∧ (¬ (nsF x.2 n (d + 1) s).1 = true → stR x n e s rd (nI (nsF x.2 n (d + 1) s).2)) := by
  obtain ⟨-, -, -, q4, -⟩ := wc_ok i hi
  intro d
  induction d with
  | zero =>
    intro k hkd s rd hg h32 hok
    have hsn := Nat.le_of_lt (at_lt h32)
    obtain ⟨a1, a2⟩ := gap_num (e := e) hx hn hi hc (show k < enM i by omega) hg h32
    have eN : nsF x.2 n (0 + 1) s = if nuO x.2 n s = true then nsF x.2 n 0 (nuE x.2 n s) else (false, nuE x.2 n s) := rfl
    by_cases co : nuO x.2 n s = true
    · rw [if_pos co] at eN
      obtain ⟨r1, dd, b1, b2, b3, b4⟩ := a1 co
      obtain ⟨E2, En, E48⟩ := nu_two co
      have eN0 : nsF x.2 n 0 (nuE x.2 n s) = (atB x.2 n 59 59 (sk x.2 n (nuE x.2 n s)), if atB x.2 n 59 59 (sk x.2 n (nuE x.2 n s)) = true then sk x.2 n (sk x.2 n (nuE x.2 n s) + 1) else sk x.2 n (nuE x.2 n s)) := rfl
      rw [eN0] at eN
      rw [eN] at hok ⊢
      generalize hE : nuE x.2 n s = E at *
      by_cases e32 : atB x.2 n 32 32 E = true
      · obtain ⟨r2, f1, f2, f3⟩ := num_sp (e := e) hx hn b2 e32
        have f2 : GS c i (enM i) r2 := by rw [← hkd]; exact f2
        have hsk := gap_sk (e := e) hx hn f2.2.1 E
        have hSend : ¬ atB x.2 n 32 32 (sk x.2 n E) = true := sc_end (T := x.2) (n := n) (a := 32) (z := 32) E
        have hSn : sk x.2 n E ≤ n := sc_le (T := x.2) (n := n) (a := 32) (z := 32) En
        by_cases c59 : atB x.2 n 59 59 (sk x.2 n E) = true
        · have hc8 : c < 18 := hok c59
          rw [if_pos c59]
          refine ⟨fun _ => ?_, fun h => absurd c59 h⟩
          have g1 := gap_end (e := e) hx hn hi f2 hc8 c59
          obtain ⟨w1, w2, w3, w4, w5⟩ := end_fr (i := i) f2.1
          have g2 := front_sp (e := e) (rd := endS c i r2) hx hn w2 (sk x.2 n E + 1)
          refine ⟨_, (((b1.trans f1).trans hsk).trans g1).trans g2, w1, w2, w4, fun j hj => ?_, fun j hj => ?_, fun j hj => ?_⟩
          · rw [w5 j hj, f3, b3.2]
          · have ej : j = 0 := by omega
            subst ej
            rw [w3, f3]
            exact b4 hc8
          · rw [w3, f3]
            exact b3.1 j hj
        · rw [if_neg c59]
          refine ⟨fun h => absurd h c59, fun _ => ?_⟩
          exact ((b1.trans f1).trans hsk).st (gap_no hx hn hi (Nat.le_refl _) f2 hSn hSend (fun q => absurd q c59) (fun _ => rfl))
      · have eS : sk x.2 n E = E := sc_no e32
        rw [eS] at hok ⊢
        by_cases c59 : atB x.2 n 59 59 E = true
        · have hc8 : c < 18 := hok c59
          rw [if_pos c59]
          refine ⟨fun _ => ?_, fun h => absurd c59 h⟩
          obtain ⟨r2, g1, w1, w2, w3, w4, w5⟩ := num_end (e := e) hx hn hi hc8 b2 hkd c59
          have g2 := front_sp (e := e) (rd := r2) hx hn w2 (E + 1)
          refine ⟨_, (b1.trans g1).trans g2, w1, w2, w4, fun j hj => ?_, fun j hj => ?_, fun j hj => ?_⟩
          · rw [w5 j hj, b3.2]
          · have ej : j = 0 := by omega
            subst ej
            rw [w3]
            exact b4 hc8
          · rw [w3]
            exact b3.1 j hj
        · rw [if_neg c59]
          refine ⟨fun h => absurd h c59, fun _ => ?_⟩
          exact b1.st (num_no hx hn hi b2 (by omega) En e32 (fun q => absurd q c59) E48)
    · rw [if_neg co] at eN
      rw [eN]
      exact ⟨fun h => (Bool.false_ne_true h).elim, fun _ => a2 co⟩
  | succ d ih =>
    intro k hkd s rd hg h32 hok
    obtain ⟨a1, a2⟩ := gap_num (e := e) hx hn hi hc (show k < enM i by omega) hg h32
    have eN : nsF x.2 n (d + 1 + 1) s = if nuO x.2 n s = true then nsF x.2 n (d + 1) (nuE x.2 n s) else (false, nuE x.2 n s) := rfl
    by_cases co : nuO x.2 n s = true
    · rw [if_pos co] at eN
      obtain ⟨r1, dd, b1, b2, b3, b4⟩ := a1 co
      obtain ⟨E2, En, E48⟩ := nu_two co
      rw [eN] at hok ⊢
      by_cases e32 : atB x.2 n 32 32 (nuE x.2 n s) = true
      · obtain ⟨r2, f1, f2, f3⟩ := num_sp (e := e) hx hn b2 e32
        obtain ⟨i1, i2⟩ := ih (k + 1) (by omega) (nuE x.2 n s) r2 f2 e32 hok
        refine ⟨fun h => ?_, fun h => (b1.trans f1).st (i2 h)⟩
        obtain ⟨r3, g1, w1, w2, w3, w4, w5, w6⟩ := i1 h
        refine ⟨r3, (b1.trans f1).trans g1, w1, w2, w3, fun j hj => ?_, fun j hj => ?_, fun j hj => ?_⟩
        · rw [w4 j hj, f3, b3.2]
        · cases j with
          | zero =>
            rw [w6 (c * 4 + (k + 0)) (by omega), f3]
            exact b4 (hok h)
          | succ j =>
            rw [show k + (j + 1) = k + 1 + j by omega]
            exact w5 j (by omega)
        · rw [w6 j (by omega), f3]
          exact b3.1 j hj
      · have nO : ¬ nuO x.2 n (nuE x.2 n s) = true := by unfold nuO; rw [bool_no e32]; exact Bool.false_ne_true
        have nE : nuE x.2 n (nuE x.2 n s) = nuE x.2 n s := by
          show (if atB x.2 n 32 32 (nuE x.2 n s) = true then _ else _) = _
          rw [if_neg e32]
        have eN2 : nsF x.2 n (d + 1) (nuE x.2 n s) = (false, nuE x.2 n s) := by
          show (if _ then _ else _) = _
          rw [if_neg nO, nE]
        rw [eN2]
        refine ⟨fun h => (Bool.false_ne_true h).elim, fun _ => ?_⟩
        exact b1.st (num_no hx hn hi b2 (by omega) En e32 (fun _ => by omega) E48)
    · rw [if_neg co] at eN
      rw [eN]
      exact ⟨fun h => (Bool.false_ne_true h).elim, fun _ => a2 co⟩
/-- how far a command reaches -/
theorem ns_len {T : Nat → Int32} {n : Nat} : ∀ (d s : Nat), s ≤ n → (nsF T n d s).1 = true → s + 2 * d + 1 ≤ (nsF T n d s).2 ∧ (nsF T n d s).2 ≤ n := by
  intro d
  induction d with
  | zero =>
    intro s hs h
    have h : atB T n 59 59 (sk T n s) = true := h
    have hl := at_lt h
    have e2 : (nsF T n 0 s).2 = sk T n (sk T n s + 1) := by
      show (if _ then _ else _) = _
      rw [if_pos h]
    rw [e2]
    have g1 : s ≤ sk T n s := sc_ge (T := T) (n := n) (a := 32) (z := 32) s
    have g2 : sk T n s + 1 ≤ sk T n (sk T n s + 1) := sc_ge (T := T) (n := n) (a := 32) (z := 32) (sk T n s + 1)
    have g3 := sc_le (T := T) (n := n) (a := 32) (z := 32) (show sk T n s + 1 ≤ n by omega)
    exact ⟨by omega, g3⟩
  | succ d ih =>
    intro s hs h
    by_cases co : nuO T n s = true
    · have eN : nsF T n (d + 1) s = nsF T n d (nuE T n s) := by
        show (if _ then _ else _) = _
        rw [if_pos co]
      rw [eN] at h ⊢
      obtain ⟨E2, En, -⟩ := nu_two co
      obtain ⟨i1, i2⟩ := ih (nuE T n s) En h
      exact ⟨by omega, i2⟩
    · have eN : nsF T n (d + 1) s = (false, nuE T n s) := by
        show (if _ then _ else _) = _
        rw [if_neg co]
      rw [eN] at h
      exact (Bool.false_ne_true h).elim
theorem co_len (hn : n ≤ 150) (hp : p ≤ n) (h : (coR x n p).1 = true) : p + 8 ≤ (coR x n p).2 ∧ (coR x n p).2 ≤ n ∧ ∃ i, coI x n p = some i ∧ i < 7 := by
  unfold coR at h ⊢
  cases hc : coI x n p with
  | none => rw [hc] at h; exact (Bool.false_ne_true h).elim
  | some i =>
    rw [hc] at h
    obtain ⟨i1, i2, -⟩ := pco_some hn hp hc
    obtain ⟨-, q2, -, q4, q5, -⟩ := wc_ok i i1
    have g1 : p ≤ wl x.2 n p := sc_ge (T := x.2) (n := n) (a := 97) (z := 122) p
    have g2 := sc_le (T := x.2) (n := n) (a := 97) (z := 122) hp
    obtain ⟨w1, w2⟩ := ns_len (enM i) (wl x.2 n p) g2 h
    exact ⟨by show p + 8 ≤ (nsF x.2 n (enM i) (wl x.2 n p)).2; omega, w2, i, rfl, i1⟩
/-- ONE COMMAND of the class's reader -/
def entry (x : TS) (n c p : Nat) (rd : RS) : Prop := ∃ i, coI x n p = some i ∧ rd.2.2.1 c = some i ∧ ∀ j, j < enM i → rd.2.1 (c * 4 + j) = nuV x.2 n (nuK x.2 n j (wl x.2 n p))
theorem cmd_c (hx : x.1 = nI n) (hn : n ≤ 150) (hp : p < n) (h32 : ¬ atB x.2 n 32 32 p = true) (hc : c ≤ 18) (h0 : rd.1 0 = nI c) (h1 : rd.1 1 = 0) (hok : (coR x n p).1 = true → c < 18) :
    ((coR x n p).1 = true → ∃ rd', goR x n e p rd (coR x n p).2 rd' ∧ rd'.1 0 = nI (c + 1) ∧ rd'.1 1 = 0 ∧ entry x n c p rd' ∧ (∀ j, j < c → rd'.2.2.1 j = rd.2.2.1 j) ∧ ∀ j, j < c * 4 → rd'.2.1 j = rd.2.1 j) ∧ (¬ (coR x n p).1 = true → stR x n e p rd (nI (coR x n p).2)) := by
  have g1 : p ≤ wl x.2 n p := sc_ge (T := x.2) (n := n) (a := 97) (z := 122) p
  have g2 : wl x.2 n p ≤ n := sc_le (T := x.2) (n := n) (a := 97) (z := 122) (Nat.le_of_lt hp)
  by_cases hl : atB x.2 n 97 122 p = true
  · have f1 := front_yes (e := e) hx hn h1 hl
    generalize hr1 : dsi (dsi rd 2 (nI p)) 1 1 = r1 at f1
    have e11 : r1.1 1 = 1 := by rw [← hr1]; exact dsi_eq _ _ _
    have e12 : r1.1 2 = nI p := by rw [← hr1, dsi_ne _ _ (show (2 : Nat) ≠ 1 by decide), dsi_eq]
    have e10 : r1.1 0 = nI c := by rw [← hr1, dsi_ne _ _ (show (0 : Nat) ≠ 1 by decide), dsi_ne _ _ (show (0 : Nat) ≠ 2 by decide), h0]
    have e1r : r1.2 = rd.2 := by rw [← hr1]; rfl
    have f2 := word_L (e := e) hx hn e11 (p + 1)
    rw [show wl x.2 n (p + 1) = wl x.2 n p from (sc_yes hl).symm] at f2
    have f12 := f1.trans f2
    have hwend : ¬ atB x.2 n 97 122 (wl x.2 n p) = true := sc_end (T := x.2) (n := n) (a := 97) (z := 122) p
    have hcI : pX5_commandAt x (nI p) (nI (wl x.2 n p)) = coI x n p := rfl
    unfold coR at hok ⊢
    generalize hq : wl x.2 n p = q at *
    cases hco : coI x n p with
    | none =>
      refine ⟨fun h => (Bool.false_ne_true h).elim, fun _ => ?_⟩
      show stR x n e p rd (nI p)
      by_cases hqn : q < n
      · obtain ⟨s1, s2⟩ := step_1 (x := x) (rd := r1) hn hqn e11
        refine f12.st (rd_stop hx hn hqn (rd' := dse r1 none) (r := nI p) ?_ (nI_nNO (by omega)) s2)
        rw [s1]
        unfold pX4_stepInWord
        rw [letter_at hqn, if_neg hwend, e12, hcI, hco]
        simp only [lt]
        rw [if_pos (show (dse r1 none).2.2.2 = none from rfl)]
        show (r1.1 2, _, _) = _
        rw [e12]
      · have ep : q = n := by omega
        subst ep
        obtain ⟨z1, z2⟩ := rd_end (e := e) (rd := r1) hx hn
        refine f12.st ⟨r1, ?_, z2⟩
        rw [z1, e11, if_neg (by decide), if_pos rfl, e12, hcI, hco, if_pos rfl]
    | some i =>
      rw [hco] at hok
      have hok : (nsF x.2 n (enM i) q).1 = true → c < 18 := hok
      obtain ⟨i1, -⟩ := pco_some hn (Nat.le_of_lt hp) hco
      obtain ⟨-, -, -, q4, -⟩ := wc_ok i i1
      show ((nsF x.2 n (enM i) q).1 = true → ∃ rd', goR x n e p rd (nsF x.2 n (enM i) q).2 rd' ∧ _) ∧ (¬ (nsF x.2 n (enM i) q).1 = true → stR x n e p rd (nI (nsF x.2 n (enM i) q).2))
      obtain ⟨M, hM⟩ : ∃ M, enM i = M + 1 := ⟨enM i - 1, by omega⟩
      by_cases e32 : atB x.2 n 32 32 q = true
      · have hqn := at_lt e32
        have hb := (at_eq1.mp e32).2
        obtain ⟨s1, s2⟩ := step_1 (x := x) (rd := r1) hn hqn e11
        have hG : GS c i 0 (dsi (dsi (dse r1 (some i)) 3 0) 1 2) := by
          refine ⟨?_, dsi_eq _ _ _, ?_, rfl⟩
          · rw [dsi_ne _ _ (show (0 : Nat) ≠ 1 by decide), dsi_ne _ _ (show (0 : Nat) ≠ 3 by decide), dse_i, e10]
          · rw [dsi_ne _ _ (show (3 : Nat) ≠ 1 by decide), dsi_eq]; rfl
        have f3 : goR x n e q r1 (q + 1) (dsi (dsi (dse r1 (some i)) 3 0) 1 2) := by
          refine rd_go hx hn hqn ?_ s2
          rw [s1]
          unfold pX4_stepInWord
          rw [letter_at hqn, if_neg hwend, e12, hcI, hco]
          simp only [lt]
          rw [if_neg (show ¬ (dse r1 (some i)).2.2.2 = none from fun h => by cases h), if_pos hb]
        have f4 := gap_to (e := e) hx hn hG.2.1 e32
        have f5 : goR x n e p rd q (dsi (dsi (dse r1 (some i)) 3 0) 1 2) := (f12.trans f3).trans f4
        obtain ⟨n1, n2⟩ := nums_L (e := e) hx hn i1 hc M 0 (by omega) q _ hG e32 (by rw [← hM]; exact hok)
        rw [← hM] at n1 n2
        refine ⟨fun h => ?_, fun h => f5.st (n2 h)⟩
        obtain ⟨r3, w0, w1, w2, w3, w4, w5, w6⟩ := n1 h
        refine ⟨r3, f5.trans w0, w1, w2, ⟨i, hco, w3, fun j hj => ?_⟩, fun j hj => ?_, fun j hj => ?_⟩
        · have := w5 j hj
          rw [Nat.zero_add] at this; rw [hq]; exact this
        · rw [w4 j hj]
          show r1.2.2.1 j = _
          rw [e1r]
        · rw [w6 j hj]
          show r1.2.1 j = _
          rw [e1r]
      · have nO : ¬ nuO x.2 n q = true := by unfold nuO; rw [bool_no e32]; exact Bool.false_ne_true
        have nE : nuE x.2 n q = q := by
          show (if _ then _ else _) = _
          rw [if_neg e32]
        have eN2 : nsF x.2 n (enM i) q = (false, q) := by
          rw [hM]
          show (if _ then _ else _) = _
          rw [if_neg nO, nE]
        rw [eN2]
        refine ⟨fun h => (Bool.false_ne_true h).elim, fun _ => ?_⟩
        show stR x n e p rd (nI q)
        by_cases hqn : q < n
        · have hb : ¬ x.2 q = 32 := fun z => e32 (at_eq1.mpr ⟨hqn, z⟩)
          obtain ⟨s1, s2⟩ := step_1 (x := x) (rd := r1) hn hqn e11
          refine f12.st (rd_stop hx hn hqn (rd' := dse r1 (some i)) (r := nI q) ?_ (nI_nNO (by omega)) s2)
          rw [s1]
          unfold pX4_stepInWord
          rw [letter_at hqn, if_neg hwend, e12, hcI, hco]
          simp only [lt]
          rw [if_neg (show ¬ (dse r1 (some i)).2.2.2 = none from fun h => by cases h), if_neg hb]
        · have ep : q = n := by omega
          subst ep
          obtain ⟨z1, z2⟩ := rd_end (e := e) (rd := r1) hx hn
          refine f12.st ⟨r1, ?_, z2⟩
          rw [z1, e11, if_neg (by decide), if_pos rfl, e12, hcI, hco, if_neg (fun h => by cases h)]
  · have hco : coI x n p = none := by
      cases hco : coI x n p with
      | none => rfl
      | some i =>
        obtain ⟨i1, i2, -⟩ := pco_some hn (Nat.le_of_lt hp) hco
        have := (wc_ok i i1).2.1
        rw [show wl x.2 n p = p from sc_no hl] at i2
        omega
    unfold coR
    rw [hco]
    exact ⟨fun h => (Bool.false_ne_true h).elim, fun _ => front_no hx hn h1 hp h32 hl⟩
end CREAD
