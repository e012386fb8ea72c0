/-! THE LAW'S LARGER METHODS: calls of its own methods beside the object -/
section SOCALL
theorem gD_one {A : Nat → Prop} {q : Nat} (h : A q) : gD A [q] := ⟨fun i j a hi hj => by
  have h1 := (List.getElem?_eq_some_iff.mp hi).1
  have h2 := (List.getElem?_eq_some_iff.mp hj).1
  have e : ([q] : List Nat).length = 1 := rfl
  omega, fun a ha => by rw [List.mem_singleton.mp ha]; exact h⟩
theorem gD_last {A : Nat → Prop} {as : List Nat} {q : Nat} (h : gD A (as ++ [q])) : q ∉ as := fun hq => by
  obtain ⟨i, hi⟩ := List.getElem?_of_mem hq
  have hl := (List.getElem?_eq_some_iff.mp hi).1
  have := h.1 i as.length q (by rw [List.getElem?_append_left hl]; exact hi) (by rw [List.getElem?_append_right (Nat.le_refl _), Nat.sub_self]; rfl)
  omega
theorem cpL_mem {f : Nat → List Nat} {a i : Nat} (ha : a ∈ f i) : ∀ (is : List Nat), i ∈ is → a ∈ cpL f is
  | [], h => absurd h List.not_mem_nil
  | [j], h => by
    have e := List.mem_singleton.mp h
    subst e
    exact ha
  | j :: k :: is, h => by
    rcases List.mem_cons.mp h with h | h
    · subst h
      exact List.mem_append_left _ ha
    · exact List.mem_append_right _ (cpL_mem ha (k :: is) h)
theorem gC_new {A : Nat → Prop} {qb qs qu qr qe qk : Nat → Nat} {aw9 : List Nat} {q : Nat} (h : gC A (cpT qb qs qu qr qe qk aw9)) (hq : gD A (cpL (cpT qb qs qu qr qe qk aw9) [0, 1, 2, 3, 4, 5, 6] ++ [q])) : gC A (cpT qb qs qu qr qe qk (aw9 ++ [q])) := by
  have hA : A q := hq.2 q (List.mem_append_right _ List.mem_cons_self)
  have hn : ∀ i, q ∉ cpT qb qs qu qr qe qk aw9 i := by
    intro i hi
    refine gD_last hq ?_
    have h7 : i < 7 ∨ 7 ≤ i := by omega
    rcases h7 with h7 | h7
    · refine cpL_mem hi _ ?_
      have : i = 0 ∨ i = 1 ∨ i = 2 ∨ i = 3 ∨ i = 4 ∨ i = 5 ∨ i = 6 := by omega
      rcases this with e | e | e | e | e | e | e <;> subst e <;> decide
    · have e : cpT qb qs qu qr qe qk aw9 i = [] := by
        match i, h7 with
        | i + 7, _ => rfl
      rw [e] at hi
      exact absurd hi List.not_mem_nil
  have he : ∀ i, i ≠ 6 → cpT qb qs qu qr qe qk (aw9 ++ [q]) i = cpT qb qs qu qr qe qk aw9 i := by
    intro i hi
    match i, hi with
    | 0, _ => rfl
    | 1, _ => rfl
    | 2, _ => rfl
    | 3, _ => rfl
    | 4, _ => rfl
    | 5, _ => rfl
    | 6, h => exact absurd rfl h
    | i + 7, _ => rfl
  refine ⟨fun i => ?_, fun i j hij a ha hb => ?_⟩
  · by_cases h6 : i = 6
    · subst h6
      exact gD_app (h.1 6) (gD_one hA) (fun a ha hb => by rw [List.mem_singleton.mp hb] at ha; exact hn 6 ha)
    · rw [he i h6]
      exact h.1 i
  · by_cases h6 : i = 6
    · subst h6
      rw [he j (fun e => hij e.symm)] at hb
      rcases List.mem_append.mp (show a ∈ aw9 ++ [q] from ha) with h1 | h1
      · exact h.2 6 j hij a h1 hb
      · rw [List.mem_singleton.mp h1] at hb
        exact hn j hb
    · rw [he i h6] at ha
      by_cases h7 : j = 6
      · subst h7
        rcases List.mem_append.mp (show a ∈ aw9 ++ [q] from hb) with h1 | h1
        · exact h.2 i 6 hij a ha h1
        · rw [List.mem_singleton.mp h1] at ha
          exact hn i ha
      · rw [he j h7] at hb
        exact h.2 i j hij a ha hb
abbrev OW (cI cB : ClassId) (qb qs qu qr qe qk qx qd : Nat → Nat) (kk : Int32) (v : OT) : va_W := bw qb cI v.1 ++ sw qs cI v.2.1 ++ uw qu cI cB v.2.2.1 ++ aw qr cI v.2.2.2.1 ++ ew qe cI v.2.2.2.2 ++ kw qk qb qr qe qs qu qx qd cI kk
theorem OI_app {D : va_G} {cI cB : ClassId} {qb qs qu qr qe qk qx qd : Nat → Nat} {kk : Int32} {v : OT} {H : Heap} (h : OI D cI cB qb qs qu qr qe qk qx qd kk v H) : va_P D vwCl (OW cI cB qb qs qu qr qe qk qx qd kk v) H :=
  va_P.app (va_P.app (va_P.app (va_P.app (va_P.app h.1 h.2.1) h.2.2.1) h.2.2.2.1) h.2.2.2.2.1) h.2.2.2.2.2
theorem OI_of {D : va_G} {cI cB : ClassId} {qb qs qu qr qe qk qx qd : Nat → Nat} {kk : Int32} {v : OT} {H : Heap} (h : va_P D vwCl (OW cI cB qb qs qu qr qe qk qx qd kk v) H) : OI D cI cB qb qs qu qr qe qk qx qd kk v H := by
  have h5 := va_P_pre h
  have h4 := va_P_pre h5
  have h3 := va_P_pre h4
  have h2 := va_P_pre h3
  exact ⟨va_P_pre h2, va_P_suf h2, va_P_suf h3, va_P_suf h4, va_P_suf h5, va_P_suf h⟩
abbrev oAd (qb qs qu qr qe qk : Nat → Nat) : List Nat := bAd qb ++ (sAd qs ++ (uAd qu ++ (aAd qr ++ (eAd qe ++ kAd qk))))
variable {p : Program} {l : Launch} {e : Env} {R : Room} {s : State} {m : MethodId} {args : Array Value} {below : List Frame} {meth : Method} {c : Code} {H : Heap} {locs : List Loc} {cells slots : Nat} {Q : State → Prop}
variable {pc : Nat} {ls : Array Slot} {rest st0 : List Value} {a : Array Value} {A A1 : Nat → Prop} {H0 : Heap} {D : va_G} {w0 wo : va_W} {cc : ByteArray} {nL mc ms : Nat} {own : String} {Ts : List Cond} {free : Addr → Prop}
theorem i_callv {S : Type} {post : S → Prop} {Wd : S → va_W} (hr : va_Run p l e R s m args below meth c H locs cells slots mc ms (F0 m pc ls st0) rest (va_Qv post (fun v t => va_P D vwCl (Wd v) t.heap) A1 a) free)
    (ho : va_P D vwCl wo H) (hD : gD (fun _ => True) (w0.map Prod.fst ++ wo.map Prod.fst)) (hA1 : ∀ q, A1 q → q ∈ w0.map Prod.fst ∨ H.size ≤ q) (hf : ∀ q, free q → q ∈ w0.map Prod.fst ∨ H.size ≤ q) (hw : ∀ q ∈ w0.map Prod.fst, A q) (hA : ∀ q, H0.size ≤ q → A q) (hS : va_S A H0 H locs)
    (kk : ∀ (v : S) (H1 : Heap) (locs1 : List Loc), post v → va_P D vwCl (Wd v) H1 → va_P D vwCl wo H1 → va_S A H0 H1 locs1 → W p l e R s m args below meth c H1 locs1 (cells + mc) (slots + ms) Q (F0 m (pc + 3) ls rest)) : W p l e R s m args below meth c H locs cells slots Q (F0 m pc ls st0) := by
  have hs : ∀ q, (q ∈ w0.map Prod.fst ∨ H.size ≤ q) → A q := fun q h => h.elim (hw q) (fun h => hA q (Nat.le_trans hS.1 h))
  refine va_callv hr hS (fun q _ h => hs q (hA1 q h)) (fun q h => hs q (hf q h)) (fun u t H1 locs1 ht hvm hp hB hz hk hS1 => ?_)
  have hB : va_P D vwCl (Wd u) t.heap := hB
  rw [ht] at hB
  exact kk u H1 locs1 hp hB (i_keep ho hD hA1 hk) hS1
/-- calls that leave the object as it is; wr: the arrays that they leave too -/
theorem o_call {S : Type} {post : Int32 → S → Prop} {Wd : S → va_W} {wr : va_W} {cI cB : ClassId} {qb qs qu qr qe qk qx qd : Nat → Nat} {kn : Int32} {v0 : OT} (hr : va_Run p l e R s m args below meth c H locs cells slots mc ms (F0 m pc ls st0) rest (va_Qi post (fun v t => va_P D vwCl (Wd v) t.heap) A1 a) free)
    (hI : OI D cI cB qb qs qu qr qe qk qx qd kn v0 H) (hr9 : va_P D vwCl wr H) (hD : gD (fun _ => True) (w0.map Prod.fst ++ (oAd qb qs qu qr qe qk ++ wr.map Prod.fst))) (hA1 : ∀ q, A1 q → q ∈ w0.map Prod.fst ∨ H.size ≤ q) (hf : ∀ q, free q → q ∈ w0.map Prod.fst ∨ H.size ≤ q) (hw : ∀ q ∈ w0.map Prod.fst, A q) (hA : ∀ q, H0.size ≤ q → A q) (hS : va_S A H0 H locs)
    (kk : ∀ (r : Int32) (v : S) (H1 : Heap) (locs1 : List Loc), post r v → va_P D vwCl (Wd v) H1 → va_P D vwCl wr H1 → OI D cI cB qb qs qu qr qe qk qx qd kn v0 H1 → va_S A H0 H1 locs1 → W p l e R s m args below meth c H1 locs1 (cells + mc) (slots + ms) Q (F0 m (pc + 3) ls (.int r :: rest))) : W p l e R s m args below meth c H locs cells slots Q (F0 m pc ls st0) :=
  i_call (w0 := w0) (wo := OW cI cB qb qs qu qr qe qk qx qd kn v0 ++ wr) hr (va_P.app (OI_app hI) hr9) (by rw [List.map_append]; exact hD) hA1 hf hw hA hS (fun r v H1 locs1 hp hP hO hS1 => kk r v H1 locs1 hp hP (va_P_suf hO) (OI_of (va_P_pre hO)) hS1)
theorem o_callv {S : Type} {post : S → Prop} {Wd : S → va_W} {wr : va_W} {cI cB : ClassId} {qb qs qu qr qe qk qx qd : Nat → Nat} {kn : Int32} {v0 : OT} (hr : va_Run p l e R s m args below meth c H locs cells slots mc ms (F0 m pc ls st0) rest (va_Qv post (fun v t => va_P D vwCl (Wd v) t.heap) A1 a) free)
    (hI : OI D cI cB qb qs qu qr qe qk qx qd kn v0 H) (hr9 : va_P D vwCl wr H) (hD : gD (fun _ => True) (w0.map Prod.fst ++ (oAd qb qs qu qr qe qk ++ wr.map Prod.fst))) (hA1 : ∀ q, A1 q → q ∈ w0.map Prod.fst ∨ H.size ≤ q) (hf : ∀ q, free q → q ∈ w0.map Prod.fst ∨ H.size ≤ q) (hw : ∀ q ∈ w0.map Prod.fst, A q) (hA : ∀ q, H0.size ≤ q → A q) (hS : va_S A H0 H locs)
    (kk : ∀ (v : S) (H1 : Heap) (locs1 : List Loc), post v → va_P D vwCl (Wd v) H1 → va_P D vwCl wr H1 → OI D cI cB qb qs qu qr qe qk qx qd kn v0 H1 → va_S A H0 H1 locs1 → W p l e R s m args below meth c H1 locs1 (cells + mc) (slots + ms) Q (F0 m (pc + 3) ls rest)) : W p l e R s m args below meth c H locs cells slots Q (F0 m pc ls st0) :=
  i_callv (w0 := w0) (wo := OW cI cB qb qs qu qr qe qk qx qd kn v0 ++ wr) hr (va_P.app (OI_app hI) hr9) (by rw [List.map_append]; exact hD) hA1 hf hw hA hS (fun v H1 locs1 hp hP hO hS1 => kk v H1 locs1 hp hP (va_P_suf hO) (OI_of (va_P_pre hO)) hS1)
/-- addresses: some of the arrays, the object, the other arrays -/
theorem gC_sp {qb qs qu qr qe qk : Nat → Nat} {aw9 : List Nat} (h : gC A (cpT qb qs qu qr qe qk aw9)) {x y : List Nat} (hx : gD (fun _ => True) x) (hy : gD (fun _ => True) y) (hxs : ∀ a ∈ x, a ∈ aw9) (hys : ∀ a ∈ y, a ∈ aw9) (hxy : ∀ a ∈ x, a ∉ y) : gD (fun _ => True) (x ++ (oAd qb qs qu qr qe qk ++ y)) := by
  have ho : gD (fun _ => True) (oAd qb qs qu qr qe qk) := gC_T h [0, 1, 2, 3, 4, 5] rfl rfl
  have h6 : ∀ a ∈ oAd qb qs qu qr qe qk, a ∉ aw9 := fun a ha hb => by
    obtain ⟨k, h1, h2⟩ := mem_cpL (f := cpT qb qs qu qr qe qk aw9) [0, 1, 2, 3, 4, 5] ha
    refine h.2 k 6 (fun e => ?_) a h2 hb
    subst e
    exact absurd h1 (by decide)
  refine gD_app hx (gD_app ho hy (fun a ha hb => h6 a ha (hys a hb))) (fun a ha hb => ?_)
  rcases List.mem_append.mp hb with hb | hb
  · exact h6 a hb (hxs a ha)
  · exact hxy a ha hb
theorem gC_all {qb qs qu qr qe qk : Nat → Nat} {aw9 : List Nat} (h : gC A (cpT qb qs qu qr qe qk aw9)) : gD (fun _ => True) (aw9 ++ (oAd qb qs qu qr qe qk ++ [])) :=
  gC_sp h (gD_any (h.1 6)) ⟨fun i j a hi _ => (by cases hi), fun a ha => absurd ha List.not_mem_nil⟩ (fun a h => h) (fun a h => absurd h List.not_mem_nil) (fun a _ h => List.not_mem_nil h)
theorem va_P_nilO : va_P D vwCl ([] : va_W) H := fun k q hq => (by cases hq)
/-- a new array of the law's -/
theorem w_new60 {cI cB cO cL : ClassId} {dC : Nat → ClassId} {dI : Nat → Nat → Nat} {qb qs qu qr qe qk qx qd qg qm qw : Nat → Nat} {kn : Int32} {v0 : OT} {g m9 w : Nat → Int32} (hx : p.tables.exec = Jvm.exec) (hb : c.code = cc) (harr : (Cond.arrayClass .int).before args s = true) (hK : va_K (dC, dI) vwCl (tYS cI cB cO cL) s) (hG : gC A (cpT qb qs qu qr qe qk [qg 0, qm 0, qw 0])) (hA : ∀ q, H0.size ≤ q → A q)
    (hI : OI (dC, dI) cI cB qb qs qu qr qe qk qx qd kn v0 H) (hW : va_P (dC, dI) vwCl (arW qg qm qw cI g m9 w) H) (hS : va_S A H0 H locs) (hcells : cells + 1 ≤ R.cells) (hslots : slots + 60 ≤ R.slots) (hdg : decode cc pc = .ok (.newarray .int, 2))
    (kk : ∀ (qa : Nat → Nat) (H1 : Heap), OI (dC, dI) cI cB qb qs qu qr qe qk qx qd kn v0 H1 → va_P (dC, dI) vwCl (arW qg qm qw cI g m9 w ++ ia60 qa cI (fun _ => 0)) H1 → gC A (cpT qb qs qu qr qe qk [qg 0, qm 0, qw 0, qa 0]) → va_S A H0 H1 locs → W p l e R s m args below meth c H1 locs (cells + 1) (slots + 60) Q (F0 m (pc + 2) ls (.ref (qa 0) :: rest))) : W p l e R s m args below meth c H locs cells slots Q (F0 m pc ls (.int 60 :: rest)) := by
  have hD0 : gD A (cpL (cpT qb qs qu qr qe qk [qg 0, qm 0, qw 0]) [0, 1, 2, 3, 4, 5, 6]) := gC_sel hG _ rfl
  refine g_newi (ws := OW cI cB qb qs qu qr qe qk qx qd kn v0 ++ arW qg qm qw cI g m9 w) hx hb harr hK (va_P.app (OI_app hI) hW) (gD_va hD0 rfl) hS hA 0 rfl (by decide) rfl (by decide) hcells hslots hdg (fun q H1 hP hDz hS1 => ?_)
  have hP1 := va_P_pre hP
  have hO : va_P (dC, dI) vwCl (OW cI cB qb qs qu qr qe qk qx qd kn v0) H1 := va_P_pre hP1
  have hq := va_P_suf hP
  have hg9 := va_P_suf hP1
  refine kk (fun _ => q) H1 (OI_of hO) (va_P.app hg9 hq) (gC_new hG ?_) hS1
  have h9 := gD_w hDz
  rw [List.map_append] at h9
  exact h9
/-- a store into one of the law's arrays -/
theorem o_iast {cI cB : ClassId} {qb qs qu qr qe qk qx qd : Nat → Nat} {kn : Int32} {v0 : OT} {ws : va_W} {aw9 : List Nat} {tys : List (ClassId × FieldType)} (hx : p.tables.exec = Jvm.exec) (hb : c.code = cc) (hK : va_K D vwCl tys s) (hG : gC A (cpT qb qs qu qr qe qk aw9)) (hI : OI D cI cB qb qs qu qr qe qk qx qd kn v0 H) (hW : va_P D vwCl ws H) (hS : va_S A H0 H locs) (he : ws.map Prod.fst = aw9) (q0 t0 : Nat) {cA : ClassId} {b n k : Nat} {f : Nat → Int32} (ha : ws[q0]? = some (b, .inl (cA, n, .inl f))) (ht : tys[t0]? = some (cA, .int)) {i x : Int32} (hi : i.toNatClampNeg = k) (h0 : ¬ i < 0) (hkn : k < n) (hdg : decode cc pc = .ok (.iastore, 1))
    (kk : ∀ (H1 : Heap) (locs1 : List Loc), OI D cI cB qb qs qu qr qe qk qx qd kn v0 H1 → va_P D vwCl (ws.set q0 (b, .inl (cA, n, .inl (upd f k x)))) H1 → va_S A H0 H1 locs1 → W p l e R s m args below meth c H1 locs1 cells slots Q (F0 m (pc + 1) ls rest)) : W p l e R s m args below meth c H locs cells slots Q (F0 m pc ls (.int x :: .int i :: .ref b :: rest)) := by
  subst he
  have hD0 : gD A (oAd qb qs qu qr qe qk ++ ws.map Prod.fst) := by
    have h := gC_sel hG [0, 1, 2, 3, 4, 5, 6] rfl
    exact h
  refine g_iastK (ws := OW cI cB qb qs qu qr qe qk qx qd kn v0 ++ ws) hx hb hK (va_P.app (OI_app hI) hW) (gD_va hD0 (by rw [List.map_append]; rfl)) hS ((OW cI cB qb qs qu qr qe qk qx qd kn v0).length + q0) t0 (by rw [List.getElem?_append_right (Nat.le_add_right _ _), Nat.add_sub_cancel_left]; exact ha) ht hi h0 hkn hdg (fun H1 locs1 hP hS1 => ?_)
  rw [List.set_append_right _ _ (Nat.le_add_right _ _), Nat.add_sub_cancel_left] at hP
  exact kk H1 locs1 (OI_of (va_P_pre hP)) (va_P_suf hP) hS1
end SOCALL
