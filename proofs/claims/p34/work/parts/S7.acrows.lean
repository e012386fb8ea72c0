/-! THE LAW'S ACTS: rows -/
section SACR
theorem cT_acts_eq : cT_acts = cL_acts := rfl
theorem wsT_acts_eq : wsT_acts = Cond.code yL_acts cL_acts 20 (some .boolean) :: gT := congrArg (fun c => Cond.code yL_acts c 20 (some .boolean) :: gT) cT_acts_eq
variable {p : Program} {l : Launch} {e : Env} {R : Room} {s : State} {m : MethodId} {args : Array Value} {below : List Frame} {meth : Method} {c : Code} {H : Heap} {locs : List Loc} {cells slots : Nat} {Q : State → Prop}
variable {pc : Nat} {ls : Array Slot} {rest st0 : List Value} {a : Array Value} {A A1 : Nat → Prop} {H0 : Heap} {D : va_G} {w0 wo : va_W} {cc : ByteArray} {nL mc ms : Nat} {own : String} {Ts : List Cond} {free : Addr → Prop}
theorem gC_le {N0 : Nat} {f : Nat → List Nat} (h : gC A f) (hN : ∀ q, A q → N0 ≤ q) : gC (fun q => N0 ≤ q) f := ⟨fun i => ⟨(h.1 i).1, fun a ha => hN a ((h.1 i).2 a ha)⟩, h.2⟩
/-- a call of a larger method -/
theorem u_call {cI cB : ClassId} {qb qs qu qr qe qk qx qd qg qm qw : Nat → Nat} {kn : Int32} (hr : va_Run p l e R s m args below meth c H locs cells slots mc ms (F0 m pc ls st0) rest (upQ D cI cB qb qs qu qr qe qk qx qd qg qm qw kn (uA (cpT qb qs qu qr qe qk [qg 0, qm 0, qw 0]) H.size) a) (uA (cpT qb qs qu qr qe qk [qg 0, qm 0, qw 0]) H.size))
    (hG : gC A (cpT qb qs qu qr qe qk [qg 0, qm 0, qw 0])) (hA : ∀ q, H0.size ≤ q → A q) (hS : va_S A H0 H locs)
    (kk : ∀ (v : OT) (g m9 w : Nat → Int32) (H1 : Heap) (locs1 : List Loc), RelT v g m9 w → OI D cI cB qb qs qu qr qe qk qx qd kn v H1 → va_P D vwCl (arW qg qm qw cI g m9 w) H1 → va_S A H0 H1 locs1 → W p l e R s m args below meth c H1 locs1 (cells + mc) (slots + ms) Q (F0 m (pc + 3) ls (.int 1 :: rest))) : W p l e R s m args below meth c H locs cells slots Q (F0 m pc ls st0) := by
  have hu : ∀ q, uA (cpT qb qs qu qr qe qk [qg 0, qm 0, qw 0]) H.size q → A q := fun q h => h.elim (fun ⟨i, hi⟩ => (hG.1 i).2 q hi) (fun h => hA q (Nat.le_trans hS.1 h))
  refine va_calli hr hS (fun q _ h => hu q h) hu (fun r u t H1 locs1 ht hvm hp hB hz hk hS1 => ?_)
  obtain ⟨rfl, hR⟩ := hp
  obtain ⟨v, g, m9, w⟩ := u
  have hB : OI D cI cB qb qs qu qr qe qk qx qd kn v t.heap ∧ va_P D vwCl (arW qg qm qw cI g m9 w) t.heap := hB
  rw [ht] at hB
  exact kk v g m9 w H1 locs1 hR hB.1 hB.2 hS1
theorem gD_ne3 {x y z : Nat} (h : gD A [x, y, z]) : x ≠ y ∧ x ≠ z ∧ y ≠ z :=
  ⟨fun e9 => absurd (h.1 0 1 x rfl (by rw [e9]; rfl)) (by decide), fun e9 => absurd (h.1 0 2 x rfl (by rw [e9]; rfl)) (by decide), fun e9 => absurd (h.1 1 2 y rfl (by rw [e9]; rfl)) (by decide)⟩
theorem va_P_qm {qg qm qw : Nat → Nat} {cI : ClassId} {g m9 w : Nat → Int32} (h : va_P D vwCl (arW qg qm qw cI g m9 w) H) : va_P D vwCl (iaN qm cI 40 m9) H := va_P_suf (w1 := ia14 qg cI g) (va_P_pre h)
theorem va_P_qw {qg qm qw : Nat → Nat} {cI : ClassId} {g m9 w : Nat → Int32} (h : va_P D vwCl (arW qg qm qw cI g m9 w) H) : va_P D vwCl (iaN qw cI 24 w) H := va_P_suf h
theorem va_P_qmr {qg qm qw : Nat → Nat} {cI : ClassId} {g m9 w : Nat → Int32} (h : va_P D vwCl (arW qg qm qw cI g m9 w) H) : va_P D vwCl (ia14 qg cI g ++ ia24 qw cI w) H := va_P.app (va_P_pre (w1 := ia14 qg cI g) (va_P_pre h)) (va_P_suf h)
theorem va_P_qwr {qg qm qw : Nat → Nat} {cI : ClassId} {g m9 w : Nat → Int32} (h : va_P D vwCl (arW qg qm qw cI g m9 w) H) : va_P D vwCl (ia14 qg cI g ++ ia40 qm cI m9) H := va_P_pre h
theorem va_P_qmj {qg qm qw : Nat → Nat} {cI : ClassId} {g m9 w : Nat → Int32} (h : va_P D vwCl (iaN qm cI 40 m9) H) (hr : va_P D vwCl (ia14 qg cI g ++ ia24 qw cI w) H) : va_P D vwCl (arW qg qm qw cI g m9 w) H := va_P.app (va_P.app (va_P_pre (w1 := ia14 qg cI g) hr) h) (va_P_suf (w1 := ia14 qg cI g) hr)
theorem va_P_qwj {qg qm qw : Nat → Nat} {cI : ClassId} {g m9 w : Nat → Int32} (h : va_P D vwCl (iaN qw cI 24 w) H) (hr : va_P D vwCl (ia14 qg cI g ++ ia40 qm cI m9) H) : va_P D vwCl (arW qg qm qw cI g m9 w) H := va_P.app hr h
theorem gC_qm {qb qs qu qr qe qk qg qm qw : Nat → Nat} (h : gC A (cpT qb qs qu qr qe qk [qg 0, qm 0, qw 0])) : gD (fun _ => True) ([qm 0] ++ (oAd qb qs qu qr qe qk ++ [qg 0, qw 0])) := by
  have hn := gD_ne3 (h.1 6)
  refine gC_sp h (gD_one trivial) (gD_subT (h.1 6) [0, 2] rfl rfl) (fun a ha => by rw [List.mem_singleton.mp ha]; simp) (fun a ha => ?_) (fun a ha hb => ?_)
  · rcases List.mem_cons.mp ha with e | ha
    · rw [e]; simp
    · rw [List.mem_singleton.mp ha]; simp
  · rw [List.mem_singleton.mp ha] at hb
    rcases List.mem_cons.mp hb with e | hb
    · exact hn.1 e.symm
    · exact hn.2.2 (List.mem_singleton.mp hb)
theorem gC_qw {qb qs qu qr qe qk qg qm qw : Nat → Nat} (h : gC A (cpT qb qs qu qr qe qk [qg 0, qm 0, qw 0])) : gD (fun _ => True) ([qw 0] ++ (oAd qb qs qu qr qe qk ++ [qg 0, qm 0])) := by
  have hn := gD_ne3 (h.1 6)
  refine gC_sp h (gD_one trivial) (gD_subT (h.1 6) [0, 1] rfl rfl) (fun a ha => by rw [List.mem_singleton.mp ha]; simp) (fun a ha => ?_) (fun a ha hb => ?_)
  · rcases List.mem_cons.mp ha with e | ha
    · rw [e]; simp
    · rw [List.mem_singleton.mp ha]; simp
  · rw [List.mem_singleton.mp ha] at hb
    rcases List.mem_cons.mp hb with e | hb
    · exact hn.2.1 e.symm
    · exact hn.2.2 (List.mem_singleton.mp hb).symm
end SACR
section SACP
def loN (k : Nat) : Nat := if k = 0 then 100 else if k = 1 then 1 else 0
def hiN (k : Nat) : Nat := if k = 0 then 1000 else if k = 1 then 2 else if k = 2 then 100 else if k = 3 then 50 else if k = 4 then 1000 else if k = 5 then 1 else 500
theorem k7 {k : Nat} (h : k < 7) : k = 0 ∨ k = 1 ∨ k = 2 ∨ k = 3 ∨ k = 4 ∨ k = 5 ∨ k = 6 := by omega
theorem least_eq {k : Nat} (h : k < 7) : pL_least (nI k) = nI (loN k) := by
  rcases k7 h with e | e | e | e | e | e | e <;> subst e <;> rfl
theorem most_eq {k : Nat} (h : k < 7) : pL_most (nI k) = nI (hiN k) := by
  rcases k7 h with e | e | e | e | e | e | e <;> subst e <;> rfl
theorem loN_le {k : Nat} (h : k < 7) : loN k ≤ hiN k ∧ hiN k ≤ 1000 := by
  rcases k7 h with e | e | e | e | e | e | e <;> subst e <;> decide
def sB (v : Nat) : Nat := loN (v % 7) + v / 7 % (hiN (v % 7) - loN (v % 7) + 1)
def sV (v : Nat) : Nat := if v % 7 = 2 ∧ 0 < v % 3 then sB v % 30 else if v % 7 = 4 then sB v % 150 else sB v
theorem sB_in (v : Nat) : loN (v % 7) ≤ sB v ∧ sB v ≤ hiN (v % 7) := by
  have h := Nat.mod_lt (v / 7) (y := hiN (v % 7) - loN (v % 7) + 1) (Nat.succ_pos _)
  have h1 := (loN_le (k := v % 7) (Nat.mod_lt _ (by decide))).1
  unfold sB
  omega
theorem sV_a {v : Nat} (h : v % 7 = 2) (h3 : 0 < v % 3) : sV v = sB v % 30 := if_pos ⟨h, h3⟩
theorem sV_b {v : Nat} (h : v % 7 = 4) : sV v = sB v % 150 := by
  unfold sV
  rw [if_neg (fun h2 => by omega), if_pos h]
theorem sV_c {v : Nat} (h : ¬ (v % 7 = 2 ∧ 0 < v % 3)) (h4 : ¬ v % 7 = 4) : sV v = sB v := by
  unfold sV
  rw [if_neg h, if_neg h4]
theorem sV_in (v : Nat) : loN (v % 7) ≤ sV v ∧ sV v ≤ hiN (v % 7) := by
  have hb := sB_in v
  have h1 := Nat.mod_le (sB v) 30
  have h2 := Nat.mod_le (sB v) 150
  by_cases ha : v % 7 = 2 ∧ 0 < v % 3
  · rw [sV_a ha.1 ha.2]
    have e : loN (v % 7) = 0 := by rw [ha.1]; rfl
    omega
  · by_cases h4 : v % 7 = 4
    · rw [sV_b h4]
      have e : loN (v % 7) = 0 := by rw [h4]; rfl
      omega
    · rw [sV_c ha h4]
      exact hb
theorem lohi {k : Nat} (h : k < 7) : setLo k = (loN k : Int) ∧ setHi k = (hiN k : Int) := by
  rcases k7 h with e | e | e | e | e | e | e <;> subst e <;> exact ⟨rfl, rfl⟩
theorem sV_rg (v : Nat) : rg (nI (sV v)) (setLo (v % 7)) (setHi (v % 7)) := by
  have hk : v % 7 < 7 := Nat.mod_lt _ (by decide)
  have h := sV_in v
  have h1 := (loN_le hk).2
  rw [(lohi hk).1, (lohi hk).2]
  have e := nI_toInt (n := sV v) (by omega)
  exact ⟨by rw [e]; omega, by rw [e]; omega⟩
theorem off_g {j a : Nat} (ha : a < 2 ^ 30) (hj : j < 2 ^ 30) : ∃ x : Int32, nI j - nI a = x ∧ x.toInt = (j : Int) - (a : Int) := ⟨_, rfl, nI_off hj ha⟩
theorem ni01 {n : Nat} (h : n < 2) : nI n = 0 ∨ nI n = 1 := by
  have : n = 0 ∨ n = 1 := by omega
  rcases this with e | e <;> subst e
  · exact Or.inl rfl
  · exact Or.inr rfl
theorem add_g {x : Int32} {n : Nat} (h1 : -1000 ≤ x.toInt) (h2 : x.toInt ≤ 3000) (hn : n < 10000) : ∃ y : Int32, x + 1 + nI n = y ∧ y.toInt = x.toInt + 1 + n := by
  have e := nI_toInt (n := n) (by omega)
  have e1 : ((1 : Int32)).toInt = 1 := rfl
  have q1 : (x + 1).toInt = x.toInt + 1 := by rw [Kit.i32_add (by omega) (by omega), e1]
  exact ⟨_, rfl, by rw [Kit.i32_add (by omega) (by omega), q1, e]⟩
end SACP
