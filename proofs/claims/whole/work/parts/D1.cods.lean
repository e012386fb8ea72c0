/-! PURE: with which exceptions an operation may end -/
section COD
theorem xb_q {γ : Type} {P : Nat → Prop} {c : Nat} {d : γ} {k : Nat × γ} (h1 : P c) (h2 : P k.1) : P (xb c d k).1 := by
  unfold xb
  split
  · exact h2
  · exact h1
theorem th_P {P : Nat → Prop} (h0 : P 0) (h1 : P 1) (t : Bool) : P (pX11_requireThere t) := by cases t with | false => exact h1 | true => exact h0
theorem rg_P {P : Nat → Prop} (h0 : P 0) (h2 : P 2) (t : Bool) : P (pX11_requireRange t) := by cases t with | false => exact h2 | true => exact h0
theorem rf_P2 {P : Nat → Prop} (h0 : P 0) (h2 : P 2) {r : Int32} (h : r = 0 ∨ r = 2) : P (pX11_refuse r) := by rcases h with e | e <;> rw [e] <;> assumption
theorem rf_P3 {P : Nat → Prop} (h0 : P 0) (h2 : P 2) (h3 : P 3) {r : Int32} (h : r = 0 ∨ r = 2 ∨ r = 3) : P (pX11_refuse r) := by rcases h with e | e | e <;> rw [e] <;> assumption
theorem rv_field (b : BS) (a1 a2 : Int32) : pX2_refusalOfField b a1 a2 = 0 ∨ pX2_refusalOfField b a1 a2 = 2 := by
  unfold pX2_refusalOfField; (repeat' split) <;> first | exact Or.inl rfl | exact Or.inr rfl
theorem rv_set (b : BS) (a1 a2 : Int32) : pX2_refusalOfSetting b a1 a2 = 0 ∨ pX2_refusalOfSetting b a1 a2 = 2 := by
  unfold pX2_refusalOfSetting; (repeat' split) <;> first | exact Or.inl rfl | exact Or.inr rfl
theorem rv_mic (b : BS) (a1 a2 : Int32) : pX2_refusalOfMicrophone b a1 a2 = 0 ∨ pX2_refusalOfMicrophone b a1 a2 = 2 ∨ pX2_refusalOfMicrophone b a1 a2 = 3 := by
  unfold pX2_refusalOfMicrophone; (repeat' split) <;> first | exact Or.inl rfl | exact Or.inr (Or.inl rfl) | exact Or.inr (Or.inr rfl)
theorem rv_wall (b : BS) (a1 a2 a3 : Int32) : pX2_refusalOfWall b a1 a2 a3 = 0 ∨ pX2_refusalOfWall b a1 a2 a3 = 2 ∨ pX2_refusalOfWall b a1 a2 a3 = 3 := by
  unfold pX2_refusalOfWall; (repeat' split) <;> first | exact Or.inl rfl | exact Or.inr (Or.inl rfl) | exact Or.inr (Or.inr rfl)
theorem rv_scr (b : BS) (a1 a2 a3 a4 : Int32) : pX2_refusalOfScreen b a1 a2 a3 a4 = 0 ∨ pX2_refusalOfScreen b a1 a2 a3 a4 = 2 ∨ pX2_refusalOfScreen b a1 a2 a3 a4 = 3 := by
  unfold pX2_refusalOfScreen; (repeat' split) <;> first | exact Or.inl rfl | exact Or.inr (Or.inl rfl) | exact Or.inr (Or.inr rfl)
theorem rv_click (b : BS) (a1 a2 a3 : Int32) : pX2_refusalOfClick b a1 a2 a3 = 0 ∨ pX2_refusalOfClick b a1 a2 a3 = 2 ∨ pX2_refusalOfClick b a1 a2 a3 = 3 := by
  unfold pX2_refusalOfClick; (repeat' split) <;> first | exact Or.inl rfl | exact Or.inr (Or.inl rfl) | exact Or.inr (Or.inr rfl)
theorem cod_begin {P : Nat → Prop} (b : BS) (s9 : SS) (u : US) (kk : Int32) (a1 : Int32) (a2 : Int32) (h0 : P 0) (h2 : P 2) : P (pX11_begin b s9 u kk a1 a2).1 := by
  unfold pX11_begin
  repeat' (first | refine xb_q ?_ ?_ | exact rf_P2 h0 h2 (rv_field _ a1 a2) | exact h0 | split | unfold pX11_begin)
theorem cod_addMicrophone {P : Nat → Prop} (b : BS) (s9 : SS) (u : US) (kk : Int32) (a1 : Int32) (a2 : Int32) (h0 : P 0) (h2 : P 2) (h3 : P 3) : P (pX11_addMicrophone b s9 u kk a1 a2).1 := by
  unfold pX11_addMicrophone
  repeat' (first | refine xb_q ?_ ?_ | exact rf_P3 h0 h2 h3 (rv_mic _ a1 a2) | exact h0 | split | unfold pX11_addMicrophone)
theorem cod_setClock {P : Nat → Prop} (b : BS) (s9 : SS) (u : US) (kk : Int32) (a1 : Int32) (a2 : Int32) (h0 : P 0) (h1 : P 1) (h2 : P 2) : P (pX11_setClock b s9 u kk a1 a2).1 := by
  unfold pX11_setClock
  repeat' (first | refine xb_q ?_ ?_ | exact rg_P h0 h2 _ | exact th_P h0 h1 _ | exact h0 | split | unfold pX11_setClock)
theorem cod_addWall {P : Nat → Prop} (b : BS) (s9 : SS) (u : US) (kk : Int32) (a1 : Int32) (a2 : Int32) (a3 : Int32) (h0 : P 0) (h2 : P 2) (h3 : P 3) : P (pX11_addWall b s9 u kk a1 a2 a3).1 := by
  unfold pX11_addWall
  repeat' (first | refine xb_q ?_ ?_ | exact rf_P3 h0 h2 h3 (rv_wall _ a1 a2 a3) | exact h0 | split | unfold pX11_addWall)
theorem cod_addScreen {P : Nat → Prop} (b : BS) (s9 : SS) (u : US) (kk : Int32) (a1 : Int32) (a2 : Int32) (a3 : Int32) (a4 : Int32) (h0 : P 0) (h2 : P 2) (h3 : P 3) : P (pX11_addScreen b s9 u kk a1 a2 a3 a4).1 := by
  unfold pX11_addScreen
  repeat' (first | refine xb_q ?_ ?_ | exact rf_P3 h0 h2 h3 (rv_scr _ a1 a2 a3 a4) | exact h0 | split | unfold pX11_addScreen)
theorem cod_remove {P : Nat → Prop} (b : BS) (s9 : SS) (u : US) (kk : Int32) (a1 : Int32) (a2 : Int32) (h0 : P 0) (h2 : P 2) (h1 : P 1) : P (pX11_remove b s9 u kk a1 a2).1 := by
  unfold pX11_remove
  repeat' (first | refine xb_q ?_ ?_ | exact rg_P h0 h2 _ | exact th_P h0 h1 _ | exact h0 | split | unfold pX11_remove)
theorem cod_set {P : Nat → Prop} (b : BS) (s9 : SS) (u : US) (kk : Int32) (a1 : Int32) (a2 : Int32) (h0 : P 0) (h2 : P 2) : P (pX11_set b s9 u kk a1 a2).1 := by
  unfold pX11_set
  repeat' (first | refine xb_q ?_ ?_ | exact rf_P2 h0 h2 (rv_set _ a1 a2) | exact h0 | split | unfold pX11_set)
theorem cod_setS {P : Nat → Prop} (b : BS) (s9 : SS) (u : US) (kk : Int32) (a1 : Int32) (h0 : P 0) (h2 : P 2) : P (pX11_setS b s9 u kk a1).1 := by
  unfold pX11_setS
  repeat' (first | refine xb_q ?_ ?_ | exact rg_P h0 h2 _ | exact h0 | split | unfold pX11_setS_L9)
theorem cod_click {P : Nat → Prop} (te : TS) (b : BS) (s9 : SS) (u : US) (kk : Int32) (a1 : Int32) (a2 : Int32) (a3 : Int32) (h0 : P 0) (h2 : P 2) (h3 : P 3) : P (pX11_click te b s9 u kk a1 a2 a3).1 := by
  unfold pX11_click
  repeat' (first | refine xb_q ?_ ?_ | exact rf_P3 h0 h2 h3 (rv_click _ a1 a2 a3) | exact h0 | split | unfold pX11_click)
theorem cod_calibrate {P : Nat → Prop} (te : TS) (b : BS) (s9 : SS) (u : US) (kk : Int32) (a1 : Int32) (a2 : Int32) (a3 : Int32) (h0 : P 0) (h2 : P 2) (h3 : P 3) : P (pX11_calibrate te b s9 u kk a1 a2 a3).1 := by
  unfold pX11_calibrate
  repeat' (first | refine xb_q ?_ ?_ | exact rf_P3 h0 h2 h3 (rv_click _ a1 a2 a3) | exact h0 | split | unfold pX11_calibrate)
theorem cod_note {P : Nat → Prop} (b : BS) (kk : Int32) (a1 : Int32) (h0 : P 0) (h1 : P 1) : P (pX11_note b kk a1).1 := by
  unfold pX11_note
  repeat' (first | refine xb_q ?_ ?_ | exact th_P h0 h1 _ | exact h0 | split | unfold pX11_note)
theorem cod_heard {P : Nat → Prop} (b : BS) (kk : Int32) (a1 : Int32) (a2 : Int32) (h0 : P 0) (h1 : P 1) (h2 : P 2) : P (pX11_heard b kk a1 a2).1 := by
  unfold pX11_heard
  repeat' (first | refine xb_q ?_ ?_ | exact rg_P h0 h2 _ | exact th_P h0 h1 _ | exact h0 | split | unfold pX11_heard)
theorem cod_arrivals {P : Nat → Prop} (tr : TS) (b : BS) (kk : Int32) (a1 : Int32) (a2 : Int32) (a3 : Int32) (h0 : P 0) (h1 : P 1) (h2 : P 2) : P (pX11_arrivals tr b kk a1 a2 a3).1 := by
  unfold pX11_arrivals
  repeat' (first | refine xb_q ?_ ?_ | exact rg_P h0 h2 _ | exact th_P h0 h1 _ | exact h0 | split | unfold pX11_arrivals)
theorem cod_arrival {P : Nat → Prop} (tr : TS) (b : BS) (kk : Int32) (a1 : Int32) (a2 : Int32) (a3 : Int32) (a4 : Int32) (a5 : Int32) (h0 : P 0) (h1 : P 1) (h2 : P 2) : P (pX11_arrival tr b kk a1 a2 a3 a4 a5).1 := by
  unfold pX11_arrival
  repeat' (first | refine xb_q ?_ ?_ | exact rg_P h0 h2 _ | exact th_P h0 h1 _ | exact h0 | split | unfold pX11_arrival_L41 pX11_arrival_L42)
theorem cod_delay {P : Nat → Prop} (b : BS) (kk : Int32) (a1 : Int32) (a2 : Int32) (h0 : P 0) (h1 : P 1) (h2 : P 2) : P (pX11_delay b kk a1 a2).1 := by
  unfold pX11_delay
  repeat' (first | refine xb_q ?_ ?_ | exact rg_P h0 h2 _ | exact th_P h0 h1 _ | exact h0 | split | unfold pX11_delay_L32 pX11_delay_L33 pX11_delay_L46)
theorem cod_expected {P : Nat → Prop} (b : BS) (kk : Int32) (a1 : Int32) (a2 : Int32) (a3 : Int32) (h0 : P 0) (h1 : P 1) (h2 : P 2) : P (pX11_expected b kk a1 a2 a3).1 := by
  unfold pX11_expected
  repeat' (first | refine xb_q ?_ ?_ | exact rg_P h0 h2 _ | exact th_P h0 h1 _ | exact h0 | split | unfold pX11_expected_L43 pX11_expected_L44 pX11_expected_L57)
theorem cod_votes {P : Nat → Prop} (s9 : SS) (b : BS) (kk : Int32) (a1 : Int32) (h0 : P 0) (h1 : P 1) : P (pX11_votes s9 b kk a1).1 := by
  unfold pX11_votes
  repeat' (first | refine xb_q ?_ ?_ | exact th_P h0 h1 _ | exact h0 | split | unfold pX11_votes)
theorem cod_error {P : Nat → Prop} (s9 : SS) (b : BS) (kk : Int32) (a1 : Int32) (h0 : P 0) (h1 : P 1) : P (pX11_error s9 b kk a1).1 := by
  unfold pX11_error
  repeat' (first | refine xb_q ?_ ?_ | exact th_P h0 h1 _ | exact h0 | split | unfold pX11_error)
theorem cod_blame {P : Nat → Prop} (s9 : SS) (b : BS) (kk : Int32) (a1 : Int32) (h0 : P 0) (h1 : P 1) : P (pX11_blame s9 b kk a1).1 := by
  unfold pX11_blame
  repeat' (first | refine xb_q ?_ ?_ | exact th_P h0 h1 _ | exact h0 | split | unfold pX11_blame)
theorem cod_foundWithout {P : Nat → Prop} (s9 : SS) (b : BS) (kk : Int32) (a1 : Int32) (h0 : P 0) (h1 : P 1) : P (pX11_foundWithout s9 b kk a1).1 := by
  unfold pX11_foundWithout
  repeat' (first | refine xb_q ?_ ?_ | exact th_P h0 h1 _ | exact h0 | split | unfold pX11_foundWithout)
theorem cod_whole {P : Nat → Prop} (s9 : SS) (b : BS) (kk : Int32) (a1 : Int32) (h0 : P 0) (h2 : P 2) : P (pX11_whole s9 b kk a1).1 := by
  unfold pX11_whole
  repeat' (first | refine xb_q ?_ ?_ | exact rg_P h0 h2 _ | exact h0 | split | unfold pX11_whole_L33)
theorem cod_part {P : Nat → Prop} (b : BS) (kk : Int32) (a1 : Int32) (a2 : Int32) (a3 : Int32) (h0 : P 0) (h2 : P 2) (h1 : P 1) : P (pX11_part b kk a1 a2 a3).1 := by
  unfold pX11_part
  repeat' (first | refine xb_q ?_ ?_ | exact rg_P h0 h2 _ | exact th_P h0 h1 _ | exact h0 | split | unfold pX11_part_L33 pX11_part_L34)
theorem cod_type {P : Nat → Prop} (x : TS) (kk : Int32) (a1 : Int32) (h0 : P 0) (h2 : P 2) (h3 : P 3) : P (pX11_type x kk a1).1 := by
  unfold pX11_type
  repeat' (first | refine xb_q ?_ ?_ | exact h3 | exact h0 | exact rg_P h0 h2 _ | split | unfold pX11_type_L25)
theorem cod_undo {P : Nat → Prop} (s9 : SS) (u : US) (b : BS) (kk : Int32) (h0 : P 0) (h3 : P 3) : P (pX11_undo s9 u b kk).1 := by
  unfold pX11_undo
  repeat' (first | refine xb_q ?_ ?_ | exact h3 | exact h0 | split | unfold pX11_undo_L15)
end COD
