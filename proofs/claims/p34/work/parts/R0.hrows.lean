/-! THE LAW'S HELPERS: what they make of what is thrown -/
section HROW
def hcode (c : Nat) : Int32 := if c = 1 then -100000001 else if c = 2 then -100000002 else -100000003
/-- what the helper answers, and what stands then -/
def hF {σ : Type} (f : Nat × (Int32 × σ)) : Int32 × σ := (if f.1 = 0 then f.2.1 else hcode f.1, f.2.2)
theorem hF_0 {σ : Type} {f : Nat × (Int32 × σ)} (h : f.1 = 0) : (f.2.1, f.2.2) = hF f := by unfold hF; rw [if_pos h]
theorem hF_x {σ : Type} {f : Nat × (Int32 × σ)} {n : Nat} {x : Int32} (h : f.1 ≠ 0) (h1 : f.1 = n) (hx : hcode n = x) : (x, f.2.2) = hF f := by unfold hF; rw [if_neg h, h1, hx]
abbrev hQ {σ : Type} (D : va_G) (Wd : σ → va_W) (A : Nat → Prop) (f : Nat × (Int32 × σ)) : Array Value → State → Outcome → State → Prop := va_Qi (fun (r : Int32) (v : σ) => (r, v) = hF f) (fun v t => va_P D vwCl (Wd v) t.heap) A
variable {p : Program} {l : Launch} {e : Env} {R : Room} {s : State} {m : MethodId} {args : Array Value} {below : List Frame} {meth : Method} {c : Code} {H : Heap} {locs : List Loc} {cells slots : Nat} {Q : State → Prop}
variable {pc : Nat} {ls : Array Slot} {rest st0 : List Value} {a : Array Value} {A A0 : Nat → Prop} {D : va_G} {ws wc : va_W} {cc : ByteArray} {nL : Nat} {own : String} {Ts : List Cond}
theorem h_call {σ : Type} {Wd : σ → va_W} {f : Nat × (Int32 × σ)} {w0 : va_W} {mc ms : Nat} (hr : vx_Run p l e R s m args below meth c H locs cells slots mc ms (F0 m pc ls st0) rest (yQi D Wd (va_A w0 H.size) f a) (yX D Wd (va_A w0 H.size) f) (va_A w0 H.size))
    (hD : va_D A w0) (hS : va_S A s.heap H locs) (hA : ∀ q, s.heap.size ≤ q → A q)
    (kx : f.1 ≠ 0 → ∀ (q9 : Addr) (ce : Cell) (H1 : Heap) (locs1 : List Loc), va_P D vwCl (Wd f.2.2) H1 → va_S A s.heap H1 locs1 → H1[q9]? = some ce → ce.vm = .none → s.vm.findClass (xN f.1) = some ce.cls → vx_W p l e R s m args below meth c H1 locs1 (cells + mc) (slots + ms) Q (F0 m pc ls rest) q9)
    (kk : f.1 = 0 → ∀ (H1 : Heap) (locs1 : List Loc), va_P D vwCl (Wd f.2.2) H1 → va_S A s.heap H1 locs1 → W p l e R s m args below meth c H1 locs1 (cells + mc) (slots + ms) Q (F0 m (pc + 3) ls (.int f.2.1 :: rest))) : W p l e R s m args below meth c H locs cells slots Q (F0 m pc ls st0) := by
  have hsub : ∀ q, va_A w0 H.size q → A q := fun q h => h.elim (fun ⟨k, e9, hk⟩ => hD.2 k (q, e9) hk) (fun h => hA q (Nat.le_trans hS.1 h))
  refine vx_calli hr hS (fun q _ h => hsub q h) hsub (fun q _ h => hsub q h) ?_ ?_
  · intro E ce q9 u t H1 locs1 ht hvm hpx hBX hz hk hS1 hce hcv hcl
    obtain ⟨hu, hne⟩ := hpx
    obtain ⟨hE, hPu⟩ := hBX
    subst hE
    rw [ht, hu] at hPu
    rw [hu] at hne hcl
    exact kx hne q9 ce H1 locs1 hPu hS1 hce hcv hcl
  · intro r u t H1 locs1 ht hvm hp hB hz hk hS1
    have hB : va_P D vwCl (Wd u) t.heap := hB
    rw [ht] at hB
    have e1 : f.1 = 0 := by rw [← hp]
    have e2 : f.2.1 = r := by rw [← hp]
    have e3 : f.2.2 = u := by rw [← hp]
    rw [← e3] at hB
    rw [← e2]
    exact kk e1 H1 locs1 hB hS1
/-- the end of a helper -/
theorem e_H {σ : Type} {Wd : σ → va_W} {f : Nat × (Int32 × σ)} {mc ms : Nat} (C0 : Cx p s m meth c cc (some .int) nL own args Ts) {rc : Int32} {v : σ} (h : (rc, v) = hF f) (hP : va_P D vwCl (Wd v) H) (hS : va_S A s.heap H locs) (hc : Nat.ble cells mc = true) (hs : Nat.ble slots ms = true) (hdg : decode cc pc = .ok (.ireturn, 1)) : W p l e R s m args below meth c H locs cells slots (MQ below (hQ D Wd A f) args s mc ms A) (F0 m pc ls [.int rc]) := by
  obtain ⟨hx, hb, hr, hml, hown, hts, hlocks⟩ := C0
  refine W.widen (Nat.le_of_ble_eq_true hc) (Nat.le_of_ble_eq_true hs) ?_
  exact W.iret hx hb hr (fun t ht hW => ⟨⟨rc, v, rfl, h, by show va_P D vwCl (Wd v) t.heap; rw [ht]; exact hP⟩, hS.F ht⟩) hS.2.2 hdg hlocks
end HROW
