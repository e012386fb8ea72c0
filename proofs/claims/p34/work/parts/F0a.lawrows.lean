/-! THE LAW: the worlds of both, side by side, and the calls -/
section LAW0
theorem va_P_suf {D : va_G} {cl : List vw_C} {w1 w2 : va_W} {H : Heap} (h : va_P D cl (w1 ++ w2) H) : va_P D cl w2 H := fun k q hq => h (w1.length + k) q (by rw [List.getElem?_append_right (by omega), show w1.length + k - w1.length = k by omega]; exact hq)
theorem i_keep {D : va_G} {cl : List vw_C} {w0 wo : va_W} {H H1 : Heap} {A1 : Nat → Prop} (ho : va_P D cl wo H) (hD : gD (fun _ => True) (w0.map Prod.fst ++ wo.map Prod.fst)) (hA1 : ∀ q, A1 q → q ∈ w0.map Prod.fst ∨ H.size ≤ q) (hk : ∀ q : Nat, q < H.size → ¬ A1 q → H1[q]? = H[q]?) : va_P D cl wo H1 := by
  intro k q hq
  have h2 := ho k q hq
  refine h2.kept (hk q.1 h2.lt (fun h => ?_))
  rcases hA1 _ h with h | h
  · obtain ⟨j, hj⟩ := List.getElem?_of_mem h
    have hl : j < (w0.map Prod.fst).length := (List.getElem?_eq_some_iff.mp hj).1
    have h3 : (w0.map Prod.fst ++ wo.map Prod.fst)[j]? = some q.1 := by rw [List.getElem?_append_left hl]; exact hj
    have h4 : (w0.map Prod.fst ++ wo.map Prod.fst)[(w0.map Prod.fst).length + k]? = some q.1 := by
      rw [List.getElem?_append_right (by omega), show (w0.map Prod.fst).length + k - (w0.map Prod.fst).length = k by omega, List.getElem?_map, hq]
      rfl
    have := hD.1 _ _ _ h3 h4
    omega
  · exact absurd h2.lt (Nat.not_lt.mpr h)
theorem mem_wA {w0 : va_W} {q : Nat} (h : wA w0 q) : q ∈ w0.map Prod.fst := by
  obtain ⟨k, e, hk⟩ := h
  exact List.mem_map.mpr ⟨(q, e), List.mem_of_getElem? hk, rfl⟩
theorem mem_vA {w0 : va_W} {q sz : Nat} (h : va_A w0 sz q) : q ∈ w0.map Prod.fst ∨ sz ≤ q := h.elim (fun h => Or.inl (mem_wA h)) Or.inr
variable {p : Program} {l : Launch} {e : Env} {R : Room} {s : State} {m : MethodId} {args : Array Value} {below : List Frame} {meth : Method} {c : Code} {H : Heap} {locs : List Loc} {cells slots : Nat} {Q : State → Prop}
variable {pc : Nat} {ls : Array Slot} {rest st0 : List Value} {a : Array Value} {A A1 : Nat → Prop} {H0 : Heap} {D : va_G} {w0 wo : va_W} {cc : ByteArray} {nL mc ms : Nat} {own : String} {Ts : List Cond} {free : Addr → Prop}
/-- a call that changes some of what stands -/
theorem i_call {S : Type} {post : Int32 → S → Prop} {Wd : S → va_W} (hr : va_Run p l e R s m args below meth c H locs cells slots mc ms (F0 m pc ls st0) rest (va_Qi post (fun v t => va_P D vwCl (Wd v) t.heap) A1 a) free)
    (ho : va_P D vwCl wo H) (hD : gD (fun _ => True) (w0.map Prod.fst ++ wo.map Prod.fst)) (hA1 : ∀ q, A1 q → q ∈ w0.map Prod.fst ∨ H.size ≤ q) (hf : ∀ q, free q → q ∈ w0.map Prod.fst ∨ H.size ≤ q) (hw : ∀ q ∈ w0.map Prod.fst, A q) (hA : ∀ q, H0.size ≤ q → A q) (hS : va_S A H0 H locs)
    (kk : ∀ (r : Int32) (v : S) (H1 : Heap) (locs1 : List Loc), post r v → va_P D vwCl (Wd v) H1 → va_P D vwCl wo H1 → va_S A H0 H1 locs1 → W p l e R s m args below meth c H1 locs1 (cells + mc) (slots + ms) Q (F0 m (pc + 3) ls (.int r :: rest))) : W p l e R s m args below meth c H locs cells slots Q (F0 m pc ls st0) := by
  have hs : ∀ q, (q ∈ w0.map Prod.fst ∨ H.size ≤ q) → A q := fun q h => h.elim (hw q) (fun h => hA q (Nat.le_trans hS.1 h))
  refine va_calli hr hS (fun q _ h => hs q (hA1 q h)) (fun q h => hs q (hf q h)) (fun r u t H1 locs1 ht hvm hp hB hz hk hS1 => ?_)
  have hB : va_P D vwCl (Wd u) t.heap := hB
  rw [ht] at hB
  exact kk r u H1 locs1 hp hB (i_keep ho hD hA1 hk) hS1
theorem l_calll {S : Type} {post : Int64 → S → Prop} {Wd : S → va_W} (hr : va_Run p l e R s m args below meth c H locs cells slots mc ms (F0 m pc ls st0) rest (va_Ql post (fun v t => va_P D vwCl (Wd v) t.heap) A1 a) free)
    (ho : va_P D vwCl wo H) (hD : gD (fun _ => True) (w0.map Prod.fst ++ wo.map Prod.fst)) (hA1 : ∀ q, A1 q → q ∈ w0.map Prod.fst ∨ H.size ≤ q) (hf : ∀ q, free q → q ∈ w0.map Prod.fst ∨ H.size ≤ q) (hw : ∀ q ∈ w0.map Prod.fst, A q) (hA : ∀ q, H0.size ≤ q → A q) (hS : va_S A H0 H locs)
    (kk : ∀ (r : Int64) (v : S) (H1 : Heap) (locs1 : List Loc), post r v → va_P D vwCl (Wd v) H1 → va_P D vwCl wo H1 → va_S A H0 H1 locs1 → W p l e R s m args below meth c H1 locs1 (cells + mc) (slots + ms) Q (F0 m (pc + 3) ls (.long r :: rest))) : W p l e R s m args below meth c H locs cells slots Q (F0 m pc ls st0) := by
  have hs : ∀ q, (q ∈ w0.map Prod.fst ∨ H.size ≤ q) → A q := fun q h => h.elim (hw q) (fun h => hA q (Nat.le_trans hS.1 h))
  refine va_calll hr hS (fun q _ h => hs q (hA1 q h)) (fun q h => hs q (hf q h)) (fun r u t H1 locs1 ht hvm hp hB hz hk hS1 => ?_)
  have hB : va_P D vwCl (Wd u) t.heap := hB
  rw [ht] at hB
  exact kk r u H1 locs1 hp hB (i_keep ho hD hA1 hk) hS1
theorem l_calld {S : Type} {post : UInt64 → S → Prop} {Wd : S → va_W} (hr : va_Run p l e R s m args below meth c H locs cells slots mc ms (F0 m pc ls st0) rest (va_Qd post (fun v t => va_P D vwCl (Wd v) t.heap) A1 a) free)
    (ho : va_P D vwCl wo H) (hD : gD (fun _ => True) (w0.map Prod.fst ++ wo.map Prod.fst)) (hA1 : ∀ q, A1 q → q ∈ w0.map Prod.fst ∨ H.size ≤ q) (hf : ∀ q, free q → q ∈ w0.map Prod.fst ∨ H.size ≤ q) (hw : ∀ q ∈ w0.map Prod.fst, A q) (hA : ∀ q, H0.size ≤ q → A q) (hS : va_S A H0 H locs)
    (kk : ∀ (r : UInt64) (v : S) (H1 : Heap) (locs1 : List Loc), post r v → va_P D vwCl (Wd v) H1 → va_P D vwCl wo H1 → va_S A H0 H1 locs1 → W p l e R s m args below meth c H1 locs1 (cells + mc) (slots + ms) Q (F0 m (pc + 3) ls (.double r :: rest))) : W p l e R s m args below meth c H locs cells slots Q (F0 m pc ls st0) := by
  have hs : ∀ q, (q ∈ w0.map Prod.fst ∨ H.size ≤ q) → A q := fun q h => h.elim (hw q) (fun h => hA q (Nat.le_trans hS.1 h))
  refine va_calld hr hS (fun q _ h => hs q (hA1 q h)) (fun q h => hs q (hf q h)) (fun r u t H1 locs1 ht hvm hp hB hz hk hS1 => ?_)
  have hB : va_P D vwCl (Wd u) t.heap := hB
  rw [ht] at hB
  exact kk r u H1 locs1 hp hB (i_keep ho hD hA1 hk) hS1
end LAW0
