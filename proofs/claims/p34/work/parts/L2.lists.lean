/-! THE LAW: its list of arrivals -/
noncomputable def pL_lists_L578 (g : (Nat → Int32)) (m9 : (Nat → Int32)) (w9 : (Nat → Int32)) (q_150 : Int32 → Int32 → Int32 → Int32 → Int32 → Int32 → ((Nat → Int32)) → (Int32 × (Nat → Int32))) (v4_578 : Int32) (v5_578 : Int32) (v7_578 : Int32) (v8_578 : Int32) (v9_578 : Int32) (v11_578 : Int32) (a9_578 : (Nat → Int32)) : Int32 × (Nat → Int32) := lt (v11_578 + 1) fun (x38 : Int32) => q_150 v4_578 v5_578 v7_578 v8_578 v9_578 x38 a9_578
def kL_lists_L578 (g : (Nat → Int32)) (m9 : (Nat → Int32)) (w9 : (Nat → Int32)) (Q_150 : Int32 → Int32 → Int32 → Int32 → Int32 → Int32 → ((Nat → Int32)) → Prop) (v4_578 : Int32) (v5_578 : Int32) (v7_578 : Int32) (v8_578 : Int32) (v9_578 : Int32) (v11_578 : Int32) (a9_578 : (Nat → Int32)) : Prop := lt (v11_578 + 1) fun (x38 : Int32) => Q_150 v4_578 v5_578 v7_578 v8_578 v9_578 x38 a9_578
noncomputable def pL_lists_L574 (g : (Nat → Int32)) (m9 : (Nat → Int32)) (w9 : (Nat → Int32)) (q_150 : Int32 → Int32 → Int32 → Int32 → Int32 → Int32 → ((Nat → Int32)) → (Int32 × (Nat → Int32))) (v4_574 : Int32) (v5_574 : Int32) (v7_574 : Int32) (v8_574 : Int32) (v9_574 : Int32) (v11_574 : Int32) (t1_574 : Int32) (t2_574 : Int32) (a9_574 : (Nat → Int32)) : Int32 × (Nat → Int32) := lt ((upd a9_574 t1_574.toNatClampNeg t2_574)) fun (a9_36 : (Nat → Int32)) => lt (v9_574 + 1) fun (x37 : Int32) => pL_lists_L578 g m9 w9 q_150 v4_574 v5_574 v7_574 v8_574 x37 v11_574 a9_36
def kL_lists_L574 (g : (Nat → Int32)) (m9 : (Nat → Int32)) (w9 : (Nat → Int32)) (Q_150 : Int32 → Int32 → Int32 → Int32 → Int32 → Int32 → ((Nat → Int32)) → Prop) (v4_574 : Int32) (v5_574 : Int32) (v7_574 : Int32) (v8_574 : Int32) (v9_574 : Int32) (v11_574 : Int32) (t1_574 : Int32) (t2_574 : Int32) (a9_574 : (Nat → Int32)) : Prop := (vp_in t1_574 60) ∧ (lt ((upd a9_574 t1_574.toNatClampNeg t2_574)) fun (a9_36 : (Nat → Int32)) => lt (v9_574 + 1) fun (x37 : Int32) => kL_lists_L578 g m9 w9 Q_150 v4_574 v5_574 v7_574 v8_574 x37 v11_574 a9_36)
noncomputable def pL_lists_L554 (g : (Nat → Int32)) (m9 : (Nat → Int32)) (w9 : (Nat → Int32)) (q_150 : Int32 → Int32 → Int32 → Int32 → Int32 → Int32 → ((Nat → Int32)) → (Int32 × (Nat → Int32))) (v4_554 : Int32) (v5_554 : Int32) (v7_554 : Int32) (v8_554 : Int32) (v9_554 : Int32) (v11_554 : Int32) (v13_554 : Int32) (t1_554 : Int32) (t2_554 : Int32) (a9_554 : (Nat → Int32)) : Int32 × (Nat → Int32) := lt ((upd a9_554 t1_554.toNatClampNeg t2_554)) fun (a9_33 : (Nat → Int32)) => if 0 ≤ v13_554 then (pL_lists_L574 g m9 w9 q_150 v4_554 v5_554 v7_554 v8_554 v9_554 v11_554 ((5 * v9_554) + 4) v13_554 a9_33) else (pL_lists_L574 g m9 w9 q_150 v4_554 v5_554 v7_554 v8_554 v9_554 v11_554 ((5 * v9_554) + 4) (-1000000000) a9_33)
def kL_lists_L554 (g : (Nat → Int32)) (m9 : (Nat → Int32)) (w9 : (Nat → Int32)) (Q_150 : Int32 → Int32 → Int32 → Int32 → Int32 → Int32 → ((Nat → Int32)) → Prop) (v4_554 : Int32) (v5_554 : Int32) (v7_554 : Int32) (v8_554 : Int32) (v9_554 : Int32) (v11_554 : Int32) (v13_554 : Int32) (t1_554 : Int32) (t2_554 : Int32) (a9_554 : (Nat → Int32)) : Prop := (vp_in t1_554 60) ∧ (lt ((upd a9_554 t1_554.toNatClampNeg t2_554)) fun (a9_33 : (Nat → Int32)) => if 0 ≤ v13_554 then (kL_lists_L574 g m9 w9 Q_150 v4_554 v5_554 v7_554 v8_554 v9_554 v11_554 ((5 * v9_554) + 4) v13_554 a9_33) else (kL_lists_L574 g m9 w9 Q_150 v4_554 v5_554 v7_554 v8_554 v9_554 v11_554 ((5 * v9_554) + 4) (-1000000000) a9_33))
noncomputable def pL_lists_L514 (g : (Nat → Int32)) (m9 : (Nat → Int32)) (w9 : (Nat → Int32)) (q_150 : Int32 → Int32 → Int32 → Int32 → Int32 → Int32 → ((Nat → Int32)) → (Int32 × (Nat → Int32))) (v4_514 : Int32) (v5_514 : Int32) (v7_514 : Int32) (v8_514 : Int32) (v9_514 : Int32) (v11_514 : Int32) (v12_514 : Int32) (v13_514 : Int32) (v18_514 : Int32) (v19_514 : Int32) (t1_514 : Int32) (t2_514 : Int32) (a9_514 : (Nat → Int32)) : Int32 × (Nat → Int32) := lt ((upd a9_514 t1_514.toNatClampNeg t2_514)) fun (a9_26 : (Nat → Int32)) => lt ((upd a9_26 (((5 * v9_514) + 1).toNatClampNeg) v18_514)) fun (a9_28 : (Nat → Int32)) => lt ((upd a9_28 (((5 * v9_514) + 2).toNatClampNeg) v19_514)) fun (a9_30 : (Nat → Int32)) => if 0 ≤ v12_514 then (pL_lists_L554 g m9 w9 q_150 v4_514 v5_514 v7_514 v8_514 v9_514 v11_514 v13_514 ((5 * v9_514) + 3) v12_514 a9_30) else (pL_lists_L554 g m9 w9 q_150 v4_514 v5_514 v7_514 v8_514 v9_514 v11_514 v13_514 ((5 * v9_514) + 3) (-1000000000) a9_30)
def kL_lists_L514 (g : (Nat → Int32)) (m9 : (Nat → Int32)) (w9 : (Nat → Int32)) (Q_150 : Int32 → Int32 → Int32 → Int32 → Int32 → Int32 → ((Nat → Int32)) → Prop) (v4_514 : Int32) (v5_514 : Int32) (v7_514 : Int32) (v8_514 : Int32) (v9_514 : Int32) (v11_514 : Int32) (v12_514 : Int32) (v13_514 : Int32) (v18_514 : Int32) (v19_514 : Int32) (t1_514 : Int32) (t2_514 : Int32) (a9_514 : (Nat → Int32)) : Prop := (vp_in t1_514 60) ∧ (lt ((upd a9_514 t1_514.toNatClampNeg t2_514)) fun (a9_26 : (Nat → Int32)) => (vp_in ((5 * v9_514) + 1) 60) ∧ (lt ((upd a9_26 (((5 * v9_514) + 1).toNatClampNeg) v18_514)) fun (a9_28 : (Nat → Int32)) => (vp_in ((5 * v9_514) + 2) 60) ∧ (lt ((upd a9_28 (((5 * v9_514) + 2).toNatClampNeg) v19_514)) fun (a9_30 : (Nat → Int32)) => if 0 ≤ v12_514 then (kL_lists_L554 g m9 w9 Q_150 v4_514 v5_514 v7_514 v8_514 v9_514 v11_514 v13_514 ((5 * v9_514) + 3) v12_514 a9_30) else (kL_lists_L554 g m9 w9 Q_150 v4_514 v5_514 v7_514 v8_514 v9_514 v11_514 v13_514 ((5 * v9_514) + 3) (-1000000000) a9_30))))
noncomputable def pL_lists_L488 (g : (Nat → Int32)) (m9 : (Nat → Int32)) (w9 : (Nat → Int32)) (q_150 : Int32 → Int32 → Int32 → Int32 → Int32 → Int32 → ((Nat → Int32)) → (Int32 × (Nat → Int32))) (v4_488 : Int32) (v5_488 : Int32) (v7_488 : Int32) (v8_488 : Int32) (v9_488 : Int32) (v11_488 : Int32) (v12_488 : Int32) (v13_488 : Int32) (v18_488 : Int32) (t0_488 : Int32) (a9_488 : (Nat → Int32)) : Int32 × (Nat → Int32) := if 0 ≤ v12_488 then (if 0 ≤ v13_488 then (pL_lists_L514 g m9 w9 q_150 v4_488 v5_488 v7_488 v8_488 v9_488 v11_488 v12_488 v13_488 v18_488 t0_488 (5 * v9_488) 2 a9_488) else (pL_lists_L514 g m9 w9 q_150 v4_488 v5_488 v7_488 v8_488 v9_488 v11_488 v12_488 v13_488 v18_488 t0_488 (5 * v9_488) 1 a9_488)) else (pL_lists_L514 g m9 w9 q_150 v4_488 v5_488 v7_488 v8_488 v9_488 v11_488 v12_488 v13_488 v18_488 t0_488 (5 * v9_488) 0 a9_488)
def kL_lists_L488 (g : (Nat → Int32)) (m9 : (Nat → Int32)) (w9 : (Nat → Int32)) (Q_150 : Int32 → Int32 → Int32 → Int32 → Int32 → Int32 → ((Nat → Int32)) → Prop) (v4_488 : Int32) (v5_488 : Int32) (v7_488 : Int32) (v8_488 : Int32) (v9_488 : Int32) (v11_488 : Int32) (v12_488 : Int32) (v13_488 : Int32) (v18_488 : Int32) (t0_488 : Int32) (a9_488 : (Nat → Int32)) : Prop := if 0 ≤ v12_488 then (if 0 ≤ v13_488 then (kL_lists_L514 g m9 w9 Q_150 v4_488 v5_488 v7_488 v8_488 v9_488 v11_488 v12_488 v13_488 v18_488 t0_488 (5 * v9_488) 2 a9_488) else (kL_lists_L514 g m9 w9 Q_150 v4_488 v5_488 v7_488 v8_488 v9_488 v11_488 v12_488 v13_488 v18_488 t0_488 (5 * v9_488) 1 a9_488)) else (kL_lists_L514 g m9 w9 Q_150 v4_488 v5_488 v7_488 v8_488 v9_488 v11_488 v12_488 v13_488 v18_488 t0_488 (5 * v9_488) 0 a9_488)
noncomputable def pL_lists_L459 (g : (Nat → Int32)) (m9 : (Nat → Int32)) (w9 : (Nat → Int32)) (q_150 : Int32 → Int32 → Int32 → Int32 → Int32 → Int32 → ((Nat → Int32)) → (Int32 × (Nat → Int32))) (v4_459 : Int32) (v5_459 : Int32) (v7_459 : Int32) (v8_459 : Int32) (v9_459 : Int32) (v11_459 : Int32) (v12_459 : Int32) (v13_459 : Int32) (v18_459 : Int32) (t0_459 : Int32) (a9_459 : (Nat → Int32)) : Int32 × (Nat → Int32) := if 0 ≤ v13_459 then (pL_lists_L488 g m9 w9 q_150 v4_459 v5_459 v7_459 v8_459 v9_459 v11_459 v12_459 v13_459 v18_459 ((t0_459 * (100 - (w9 (((3 * v13_459) + 2).toNatClampNeg)))) / 100) a9_459) else (pL_lists_L488 g m9 w9 q_150 v4_459 v5_459 v7_459 v8_459 v9_459 v11_459 v12_459 v13_459 v18_459 t0_459 a9_459)
def kL_lists_L459 (g : (Nat → Int32)) (m9 : (Nat → Int32)) (w9 : (Nat → Int32)) (Q_150 : Int32 → Int32 → Int32 → Int32 → Int32 → Int32 → ((Nat → Int32)) → Prop) (v4_459 : Int32) (v5_459 : Int32) (v7_459 : Int32) (v8_459 : Int32) (v9_459 : Int32) (v11_459 : Int32) (v12_459 : Int32) (v13_459 : Int32) (v18_459 : Int32) (t0_459 : Int32) (a9_459 : (Nat → Int32)) : Prop := if 0 ≤ v13_459 then ((vp_in ((3 * v13_459) + 2) 24) ∧ (kL_lists_L488 g m9 w9 Q_150 v4_459 v5_459 v7_459 v8_459 v9_459 v11_459 v12_459 v13_459 v18_459 ((t0_459 * (100 - (w9 (((3 * v13_459) + 2).toNatClampNeg)))) / 100) a9_459)) else (kL_lists_L488 g m9 w9 Q_150 v4_459 v5_459 v7_459 v8_459 v9_459 v11_459 v12_459 v13_459 v18_459 t0_459 a9_459)
noncomputable def pL_lists_L392 (g : (Nat → Int32)) (m9 : (Nat → Int32)) (w9 : (Nat → Int32)) (q_150 : Int32 → Int32 → Int32 → Int32 → Int32 → Int32 → ((Nat → Int32)) → (Int32 × (Nat → Int32))) (v4_392 : Int32) (v5_392 : Int32) (v7_392 : Int32) (v8_392 : Int32) (v9_392 : Int32) (v11_392 : Int32) (v12_392 : Int32) (v13_392 : Int32) (v16_392 : Int32) (t0_392 : Int32) (a9_392 : (Nat → Int32)) : Int32 × (Nat → Int32) := lt (pL_root (((v16_392 - v7_392) * (v16_392 - v7_392)) + ((t0_392 - v8_392) * (t0_392 - v8_392)))) fun (x18 : Int32) => lt (100000 / (x18 + 100)) fun (x20 : Int32) => if 0 ≤ v12_392 then (pL_lists_L459 g m9 w9 q_150 v4_392 v5_392 v7_392 v8_392 v9_392 v11_392 v12_392 v13_392 x18 ((x20 * (100 - (w9 (((3 * v12_392) + 2).toNatClampNeg)))) / 100) a9_392) else (pL_lists_L459 g m9 w9 q_150 v4_392 v5_392 v7_392 v8_392 v9_392 v11_392 v12_392 v13_392 x18 x20 a9_392)
def kL_lists_L392 (g : (Nat → Int32)) (m9 : (Nat → Int32)) (w9 : (Nat → Int32)) (Q_150 : Int32 → Int32 → Int32 → Int32 → Int32 → Int32 → ((Nat → Int32)) → Prop) (v4_392 : Int32) (v5_392 : Int32) (v7_392 : Int32) (v8_392 : Int32) (v9_392 : Int32) (v11_392 : Int32) (v12_392 : Int32) (v13_392 : Int32) (v16_392 : Int32) (t0_392 : Int32) (a9_392 : (Nat → Int32)) : Prop := (kL_root (((v16_392 - v7_392) * (v16_392 - v7_392)) + ((t0_392 - v8_392) * (t0_392 - v8_392)))) ∧ (lt (pL_root (((v16_392 - v7_392) * (v16_392 - v7_392)) + ((t0_392 - v8_392) * (t0_392 - v8_392)))) fun (x18 : Int32) => (¬ (x18 + 100) = 0) ∧ (lt (100000 / (x18 + 100)) fun (x20 : Int32) => if 0 ≤ v12_392 then ((vp_in ((3 * v12_392) + 2) 24) ∧ (kL_lists_L459 g m9 w9 Q_150 v4_392 v5_392 v7_392 v8_392 v9_392 v11_392 v12_392 v13_392 x18 ((x20 * (100 - (w9 (((3 * v12_392) + 2).toNatClampNeg)))) / 100) a9_392)) else (kL_lists_L459 g m9 w9 Q_150 v4_392 v5_392 v7_392 v8_392 v9_392 v11_392 v12_392 v13_392 x18 x20 a9_392)))
noncomputable def pL_lists_L374 (g : (Nat → Int32)) (m9 : (Nat → Int32)) (w9 : (Nat → Int32)) (q_150 : Int32 → Int32 → Int32 → Int32 → Int32 → Int32 → ((Nat → Int32)) → (Int32 × (Nat → Int32))) (v4_374 : Int32) (v5_374 : Int32) (v7_374 : Int32) (v8_374 : Int32) (v9_374 : Int32) (v11_374 : Int32) (v12_374 : Int32) (v13_374 : Int32) (v15_374 : Int32) (v16_374 : Int32) (a9_374 : (Nat → Int32)) : Int32 × (Nat → Int32) := pL_lists_L392 g m9 w9 q_150 v4_374 v5_374 v7_374 v8_374 v9_374 v11_374 v12_374 v13_374 v16_374 v15_374 a9_374
def kL_lists_L374 (g : (Nat → Int32)) (m9 : (Nat → Int32)) (w9 : (Nat → Int32)) (Q_150 : Int32 → Int32 → Int32 → Int32 → Int32 → Int32 → ((Nat → Int32)) → Prop) (v4_374 : Int32) (v5_374 : Int32) (v7_374 : Int32) (v8_374 : Int32) (v9_374 : Int32) (v11_374 : Int32) (v12_374 : Int32) (v13_374 : Int32) (v15_374 : Int32) (v16_374 : Int32) (a9_374 : (Nat → Int32)) : Prop := kL_lists_L392 g m9 w9 Q_150 v4_374 v5_374 v7_374 v8_374 v9_374 v11_374 v12_374 v13_374 v16_374 v15_374 a9_374
noncomputable def pL_lists_L358 (g : (Nat → Int32)) (m9 : (Nat → Int32)) (w9 : (Nat → Int32)) (q_150 : Int32 → Int32 → Int32 → Int32 → Int32 → Int32 → ((Nat → Int32)) → (Int32 × (Nat → Int32))) (v4_358 : Int32) (v5_358 : Int32) (v7_358 : Int32) (v8_358 : Int32) (v9_358 : Int32) (v11_358 : Int32) (v12_358 : Int32) (v13_358 : Int32) (v15_358 : Int32) (t0_358 : Int32) (a9_358 : (Nat → Int32)) : Int32 × (Nat → Int32) := if v13_358 < 0 then (pL_lists_L374 g m9 w9 q_150 v4_358 v5_358 v7_358 v8_358 v9_358 v11_358 v12_358 v13_358 v15_358 t0_358 a9_358) else (if (w9 ((3 * v13_358).toNatClampNeg)) = 0 then (pL_lists_L374 g m9 w9 q_150 v4_358 v5_358 v7_358 v8_358 v9_358 v11_358 v12_358 v13_358 v15_358 t0_358 a9_358) else (pL_lists_L392 g m9 w9 q_150 v4_358 v5_358 v7_358 v8_358 v9_358 v11_358 v12_358 v13_358 t0_358 ((2 * (w9 (((3 * v13_358) + 1).toNatClampNeg))) - v15_358) a9_358))
def kL_lists_L358 (g : (Nat → Int32)) (m9 : (Nat → Int32)) (w9 : (Nat → Int32)) (Q_150 : Int32 → Int32 → Int32 → Int32 → Int32 → Int32 → ((Nat → Int32)) → Prop) (v4_358 : Int32) (v5_358 : Int32) (v7_358 : Int32) (v8_358 : Int32) (v9_358 : Int32) (v11_358 : Int32) (v12_358 : Int32) (v13_358 : Int32) (v15_358 : Int32) (t0_358 : Int32) (a9_358 : (Nat → Int32)) : Prop := if v13_358 < 0 then (kL_lists_L374 g m9 w9 Q_150 v4_358 v5_358 v7_358 v8_358 v9_358 v11_358 v12_358 v13_358 v15_358 t0_358 a9_358) else ((vp_in (3 * v13_358) 24) ∧ (if (w9 ((3 * v13_358).toNatClampNeg)) = 0 then (kL_lists_L374 g m9 w9 Q_150 v4_358 v5_358 v7_358 v8_358 v9_358 v11_358 v12_358 v13_358 v15_358 t0_358 a9_358) else ((vp_in ((3 * v13_358) + 1) 24) ∧ (kL_lists_L392 g m9 w9 Q_150 v4_358 v5_358 v7_358 v8_358 v9_358 v11_358 v12_358 v13_358 t0_358 ((2 * (w9 (((3 * v13_358) + 1).toNatClampNeg))) - v15_358) a9_358))))
noncomputable def pL_lists_L340 (g : (Nat → Int32)) (m9 : (Nat → Int32)) (w9 : (Nat → Int32)) (q_150 : Int32 → Int32 → Int32 → Int32 → Int32 → Int32 → ((Nat → Int32)) → (Int32 × (Nat → Int32))) (v4_340 : Int32) (v5_340 : Int32) (v7_340 : Int32) (v8_340 : Int32) (v9_340 : Int32) (v11_340 : Int32) (v12_340 : Int32) (v13_340 : Int32) (v14_340 : Int32) (v15_340 : Int32) (a9_340 : (Nat → Int32)) : Int32 × (Nat → Int32) := pL_lists_L358 g m9 w9 q_150 v4_340 v5_340 v7_340 v8_340 v9_340 v11_340 v12_340 v13_340 v15_340 v14_340 a9_340
def kL_lists_L340 (g : (Nat → Int32)) (m9 : (Nat → Int32)) (w9 : (Nat → Int32)) (Q_150 : Int32 → Int32 → Int32 → Int32 → Int32 → Int32 → ((Nat → Int32)) → Prop) (v4_340 : Int32) (v5_340 : Int32) (v7_340 : Int32) (v8_340 : Int32) (v9_340 : Int32) (v11_340 : Int32) (v12_340 : Int32) (v13_340 : Int32) (v14_340 : Int32) (v15_340 : Int32) (a9_340 : (Nat → Int32)) : Prop := kL_lists_L358 g m9 w9 Q_150 v4_340 v5_340 v7_340 v8_340 v9_340 v11_340 v12_340 v13_340 v15_340 v14_340 a9_340
noncomputable def pL_lists_L323 (g : (Nat → Int32)) (m9 : (Nat → Int32)) (w9 : (Nat → Int32)) (q_150 : Int32 → Int32 → Int32 → Int32 → Int32 → Int32 → ((Nat → Int32)) → (Int32 × (Nat → Int32))) (v4_323 : Int32) (v5_323 : Int32) (v7_323 : Int32) (v8_323 : Int32) (v9_323 : Int32) (v11_323 : Int32) (v12_323 : Int32) (v13_323 : Int32) (v14_323 : Int32) (t0_323 : Int32) (a9_323 : (Nat → Int32)) : Int32 × (Nat → Int32) := if v13_323 < 0 then (pL_lists_L340 g m9 w9 q_150 v4_323 v5_323 v7_323 v8_323 v9_323 v11_323 v12_323 v13_323 v14_323 t0_323 a9_323) else (if (w9 ((3 * v13_323).toNatClampNeg)) = 1 then (pL_lists_L340 g m9 w9 q_150 v4_323 v5_323 v7_323 v8_323 v9_323 v11_323 v12_323 v13_323 v14_323 t0_323 a9_323) else (pL_lists_L358 g m9 w9 q_150 v4_323 v5_323 v7_323 v8_323 v9_323 v11_323 v12_323 v13_323 t0_323 ((2 * (w9 (((3 * v13_323) + 1).toNatClampNeg))) - v14_323) a9_323))
def kL_lists_L323 (g : (Nat → Int32)) (m9 : (Nat → Int32)) (w9 : (Nat → Int32)) (Q_150 : Int32 → Int32 → Int32 → Int32 → Int32 → Int32 → ((Nat → Int32)) → Prop) (v4_323 : Int32) (v5_323 : Int32) (v7_323 : Int32) (v8_323 : Int32) (v9_323 : Int32) (v11_323 : Int32) (v12_323 : Int32) (v13_323 : Int32) (v14_323 : Int32) (t0_323 : Int32) (a9_323 : (Nat → Int32)) : Prop := if v13_323 < 0 then (kL_lists_L340 g m9 w9 Q_150 v4_323 v5_323 v7_323 v8_323 v9_323 v11_323 v12_323 v13_323 v14_323 t0_323 a9_323) else ((vp_in (3 * v13_323) 24) ∧ (if (w9 ((3 * v13_323).toNatClampNeg)) = 1 then (kL_lists_L340 g m9 w9 Q_150 v4_323 v5_323 v7_323 v8_323 v9_323 v11_323 v12_323 v13_323 v14_323 t0_323 a9_323) else ((vp_in ((3 * v13_323) + 1) 24) ∧ (kL_lists_L358 g m9 w9 Q_150 v4_323 v5_323 v7_323 v8_323 v9_323 v11_323 v12_323 v13_323 t0_323 ((2 * (w9 (((3 * v13_323) + 1).toNatClampNeg))) - v14_323) a9_323))))
noncomputable def pL_lists_L305 (g : (Nat → Int32)) (m9 : (Nat → Int32)) (w9 : (Nat → Int32)) (q_150 : Int32 → Int32 → Int32 → Int32 → Int32 → Int32 → ((Nat → Int32)) → (Int32 × (Nat → Int32))) (v4_305 : Int32) (v5_305 : Int32) (v7_305 : Int32) (v8_305 : Int32) (v9_305 : Int32) (v11_305 : Int32) (v12_305 : Int32) (v13_305 : Int32) (v14_305 : Int32) (a9_305 : (Nat → Int32)) : Int32 × (Nat → Int32) := pL_lists_L323 g m9 w9 q_150 v4_305 v5_305 v7_305 v8_305 v9_305 v11_305 v12_305 v13_305 v14_305 v5_305 a9_305
def kL_lists_L305 (g : (Nat → Int32)) (m9 : (Nat → Int32)) (w9 : (Nat → Int32)) (Q_150 : Int32 → Int32 → Int32 → Int32 → Int32 → Int32 → ((Nat → Int32)) → Prop) (v4_305 : Int32) (v5_305 : Int32) (v7_305 : Int32) (v8_305 : Int32) (v9_305 : Int32) (v11_305 : Int32) (v12_305 : Int32) (v13_305 : Int32) (v14_305 : Int32) (a9_305 : (Nat → Int32)) : Prop := kL_lists_L323 g m9 w9 Q_150 v4_305 v5_305 v7_305 v8_305 v9_305 v11_305 v12_305 v13_305 v14_305 v5_305 a9_305
noncomputable def pL_lists_L289 (g : (Nat → Int32)) (m9 : (Nat → Int32)) (w9 : (Nat → Int32)) (q_150 : Int32 → Int32 → Int32 → Int32 → Int32 → Int32 → ((Nat → Int32)) → (Int32 × (Nat → Int32))) (v4_289 : Int32) (v5_289 : Int32) (v7_289 : Int32) (v8_289 : Int32) (v9_289 : Int32) (v11_289 : Int32) (v12_289 : Int32) (v13_289 : Int32) (t0_289 : Int32) (a9_289 : (Nat → Int32)) : Int32 × (Nat → Int32) := if v12_289 < 0 then (pL_lists_L305 g m9 w9 q_150 v4_289 v5_289 v7_289 v8_289 v9_289 v11_289 v12_289 v13_289 t0_289 a9_289) else (if (w9 ((3 * v12_289).toNatClampNeg)) = 0 then (pL_lists_L305 g m9 w9 q_150 v4_289 v5_289 v7_289 v8_289 v9_289 v11_289 v12_289 v13_289 t0_289 a9_289) else (pL_lists_L323 g m9 w9 q_150 v4_289 v5_289 v7_289 v8_289 v9_289 v11_289 v12_289 v13_289 t0_289 ((2 * (w9 (((3 * v12_289) + 1).toNatClampNeg))) - v5_289) a9_289))
def kL_lists_L289 (g : (Nat → Int32)) (m9 : (Nat → Int32)) (w9 : (Nat → Int32)) (Q_150 : Int32 → Int32 → Int32 → Int32 → Int32 → Int32 → ((Nat → Int32)) → Prop) (v4_289 : Int32) (v5_289 : Int32) (v7_289 : Int32) (v8_289 : Int32) (v9_289 : Int32) (v11_289 : Int32) (v12_289 : Int32) (v13_289 : Int32) (t0_289 : Int32) (a9_289 : (Nat → Int32)) : Prop := if v12_289 < 0 then (kL_lists_L305 g m9 w9 Q_150 v4_289 v5_289 v7_289 v8_289 v9_289 v11_289 v12_289 v13_289 t0_289 a9_289) else ((vp_in (3 * v12_289) 24) ∧ (if (w9 ((3 * v12_289).toNatClampNeg)) = 0 then (kL_lists_L305 g m9 w9 Q_150 v4_289 v5_289 v7_289 v8_289 v9_289 v11_289 v12_289 v13_289 t0_289 a9_289) else ((vp_in ((3 * v12_289) + 1) 24) ∧ (kL_lists_L323 g m9 w9 Q_150 v4_289 v5_289 v7_289 v8_289 v9_289 v11_289 v12_289 v13_289 t0_289 ((2 * (w9 (((3 * v12_289) + 1).toNatClampNeg))) - v5_289) a9_289))))
noncomputable def pL_lists_L271 (g : (Nat → Int32)) (m9 : (Nat → Int32)) (w9 : (Nat → Int32)) (q_150 : Int32 → Int32 → Int32 → Int32 → Int32 → Int32 → ((Nat → Int32)) → (Int32 × (Nat → Int32))) (v4_271 : Int32) (v5_271 : Int32) (v7_271 : Int32) (v8_271 : Int32) (v9_271 : Int32) (v11_271 : Int32) (v12_271 : Int32) (v13_271 : Int32) (a9_271 : (Nat → Int32)) : Int32 × (Nat → Int32) := pL_lists_L289 g m9 w9 q_150 v4_271 v5_271 v7_271 v8_271 v9_271 v11_271 v12_271 v13_271 v4_271 a9_271
def kL_lists_L271 (g : (Nat → Int32)) (m9 : (Nat → Int32)) (w9 : (Nat → Int32)) (Q_150 : Int32 → Int32 → Int32 → Int32 → Int32 → Int32 → ((Nat → Int32)) → Prop) (v4_271 : Int32) (v5_271 : Int32) (v7_271 : Int32) (v8_271 : Int32) (v9_271 : Int32) (v11_271 : Int32) (v12_271 : Int32) (v13_271 : Int32) (a9_271 : (Nat → Int32)) : Prop := kL_lists_L289 g m9 w9 Q_150 v4_271 v5_271 v7_271 v8_271 v9_271 v11_271 v12_271 v13_271 v4_271 a9_271
noncomputable def pL_lists_L256 (g : (Nat → Int32)) (m9 : (Nat → Int32)) (w9 : (Nat → Int32)) (q_150 : Int32 → Int32 → Int32 → Int32 → Int32 → Int32 → ((Nat → Int32)) → (Int32 × (Nat → Int32))) (v4_256 : Int32) (v5_256 : Int32) (v7_256 : Int32) (v8_256 : Int32) (v9_256 : Int32) (v11_256 : Int32) (v12_256 : Int32) (v13_256 : Int32) (a9_256 : (Nat → Int32)) : Int32 × (Nat → Int32) := if v12_256 < 0 then (pL_lists_L271 g m9 w9 q_150 v4_256 v5_256 v7_256 v8_256 v9_256 v11_256 v12_256 v13_256 a9_256) else (if (w9 ((3 * v12_256).toNatClampNeg)) = 1 then (pL_lists_L271 g m9 w9 q_150 v4_256 v5_256 v7_256 v8_256 v9_256 v11_256 v12_256 v13_256 a9_256) else (pL_lists_L289 g m9 w9 q_150 v4_256 v5_256 v7_256 v8_256 v9_256 v11_256 v12_256 v13_256 ((2 * (w9 (((3 * v12_256) + 1).toNatClampNeg))) - v4_256) a9_256))
def kL_lists_L256 (g : (Nat → Int32)) (m9 : (Nat → Int32)) (w9 : (Nat → Int32)) (Q_150 : Int32 → Int32 → Int32 → Int32 → Int32 → Int32 → ((Nat → Int32)) → Prop) (v4_256 : Int32) (v5_256 : Int32) (v7_256 : Int32) (v8_256 : Int32) (v9_256 : Int32) (v11_256 : Int32) (v12_256 : Int32) (v13_256 : Int32) (a9_256 : (Nat → Int32)) : Prop := if v12_256 < 0 then (kL_lists_L271 g m9 w9 Q_150 v4_256 v5_256 v7_256 v8_256 v9_256 v11_256 v12_256 v13_256 a9_256) else ((vp_in (3 * v12_256) 24) ∧ (if (w9 ((3 * v12_256).toNatClampNeg)) = 1 then (kL_lists_L271 g m9 w9 Q_150 v4_256 v5_256 v7_256 v8_256 v9_256 v11_256 v12_256 v13_256 a9_256) else ((vp_in ((3 * v12_256) + 1) 24) ∧ (kL_lists_L289 g m9 w9 Q_150 v4_256 v5_256 v7_256 v8_256 v9_256 v11_256 v12_256 v13_256 ((2 * (w9 (((3 * v12_256) + 1).toNatClampNeg))) - v4_256) a9_256))))
noncomputable def pL_lists_L242 (g : (Nat → Int32)) (m9 : (Nat → Int32)) (w9 : (Nat → Int32)) (q_150 : Int32 → Int32 → Int32 → Int32 → Int32 → Int32 → ((Nat → Int32)) → (Int32 × (Nat → Int32))) (v4_242 : Int32) (v5_242 : Int32) (v7_242 : Int32) (v8_242 : Int32) (v9_242 : Int32) (v11_242 : Int32) (v12_242 : Int32) (t0_242 : Int32) (a9_242 : (Nat → Int32)) : Int32 × (Nat → Int32) := if v12_242 < 0 then (pL_lists_L256 g m9 w9 q_150 v4_242 v5_242 v7_242 v8_242 v9_242 v11_242 v12_242 t0_242 a9_242) else (if v12_242 = t0_242 then (pL_lists_L578 g m9 w9 q_150 v4_242 v5_242 v7_242 v8_242 v9_242 v11_242 a9_242) else (pL_lists_L256 g m9 w9 q_150 v4_242 v5_242 v7_242 v8_242 v9_242 v11_242 v12_242 t0_242 a9_242))
def kL_lists_L242 (g : (Nat → Int32)) (m9 : (Nat → Int32)) (w9 : (Nat → Int32)) (Q_150 : Int32 → Int32 → Int32 → Int32 → Int32 → Int32 → ((Nat → Int32)) → Prop) (v4_242 : Int32) (v5_242 : Int32) (v7_242 : Int32) (v8_242 : Int32) (v9_242 : Int32) (v11_242 : Int32) (v12_242 : Int32) (t0_242 : Int32) (a9_242 : (Nat → Int32)) : Prop := if v12_242 < 0 then (kL_lists_L256 g m9 w9 Q_150 v4_242 v5_242 v7_242 v8_242 v9_242 v11_242 v12_242 t0_242 a9_242) else (if v12_242 = t0_242 then (kL_lists_L578 g m9 w9 Q_150 v4_242 v5_242 v7_242 v8_242 v9_242 v11_242 a9_242) else (kL_lists_L256 g m9 w9 Q_150 v4_242 v5_242 v7_242 v8_242 v9_242 v11_242 v12_242 t0_242 a9_242))
noncomputable def pL_lists_L216 (g : (Nat → Int32)) (m9 : (Nat → Int32)) (w9 : (Nat → Int32)) (q_150 : Int32 → Int32 → Int32 → Int32 → Int32 → Int32 → ((Nat → Int32)) → (Int32 × (Nat → Int32))) (v4_216 : Int32) (v5_216 : Int32) (v7_216 : Int32) (v8_216 : Int32) (v9_216 : Int32) (v11_216 : Int32) (t0_216 : Int32) (a9_216 : (Nat → Int32)) : Int32 × (Nat → Int32) := if (g 3) < v11_216 then (pL_lists_L242 g m9 w9 q_150 v4_216 v5_216 v7_216 v8_216 v9_216 v11_216 t0_216 (((v11_216 - 1) - (g 3)) - ((v11_216 - 1) - (g 3)) / (g 3) * (g 3)) a9_216) else (pL_lists_L242 g m9 w9 q_150 v4_216 v5_216 v7_216 v8_216 v9_216 v11_216 t0_216 (-1) a9_216)
def kL_lists_L216 (g : (Nat → Int32)) (m9 : (Nat → Int32)) (w9 : (Nat → Int32)) (Q_150 : Int32 → Int32 → Int32 → Int32 → Int32 → Int32 → ((Nat → Int32)) → Prop) (v4_216 : Int32) (v5_216 : Int32) (v7_216 : Int32) (v8_216 : Int32) (v9_216 : Int32) (v11_216 : Int32) (t0_216 : Int32) (a9_216 : (Nat → Int32)) : Prop := if (g 3) < v11_216 then ((¬ (g 3) = 0) ∧ (kL_lists_L242 g m9 w9 Q_150 v4_216 v5_216 v7_216 v8_216 v9_216 v11_216 t0_216 (((v11_216 - 1) - (g 3)) - ((v11_216 - 1) - (g 3)) / (g 3) * (g 3)) a9_216)) else (kL_lists_L242 g m9 w9 Q_150 v4_216 v5_216 v7_216 v8_216 v9_216 v11_216 t0_216 (-1) a9_216)
noncomputable def pL_lists_L176 (g : (Nat → Int32)) (m9 : (Nat → Int32)) (w9 : (Nat → Int32)) (q_150 : Int32 → Int32 → Int32 → Int32 → Int32 → Int32 → ((Nat → Int32)) → (Int32 × (Nat → Int32))) (v4_176 : Int32) (v5_176 : Int32) (v7_176 : Int32) (v8_176 : Int32) (v9_176 : Int32) (v11_176 : Int32) (t0_176 : Int32) (t1_176 : Int32) (t2_176 : Int32) (a9_176 : (Nat → Int32)) : Int32 × (Nat → Int32) := if (t1_176 + t2_176) ≤ t0_176 then ((v9_176, a9_176)) else (if v11_176 = 0 then (pL_lists_L216 g m9 w9 q_150 v4_176 v5_176 v7_176 v8_176 v9_176 v11_176 (-1) a9_176) else (if (g 3) < v11_176 then (pL_lists_L216 g m9 w9 q_150 v4_176 v5_176 v7_176 v8_176 v9_176 v11_176 (((v11_176 - 1) - (g 3)) / (g 3)) a9_176) else (pL_lists_L216 g m9 w9 q_150 v4_176 v5_176 v7_176 v8_176 v9_176 v11_176 (v11_176 - 1) a9_176)))
def kL_lists_L176 (g : (Nat → Int32)) (m9 : (Nat → Int32)) (w9 : (Nat → Int32)) (Q_150 : Int32 → Int32 → Int32 → Int32 → Int32 → Int32 → ((Nat → Int32)) → Prop) (v4_176 : Int32) (v5_176 : Int32) (v7_176 : Int32) (v8_176 : Int32) (v9_176 : Int32) (v11_176 : Int32) (t0_176 : Int32) (t1_176 : Int32) (t2_176 : Int32) (a9_176 : (Nat → Int32)) : Prop := if (t1_176 + t2_176) ≤ t0_176 then (True) else (if v11_176 = 0 then (kL_lists_L216 g m9 w9 Q_150 v4_176 v5_176 v7_176 v8_176 v9_176 v11_176 (-1) a9_176) else (if (g 3) < v11_176 then ((¬ (g 3) = 0) ∧ (kL_lists_L216 g m9 w9 Q_150 v4_176 v5_176 v7_176 v8_176 v9_176 v11_176 (((v11_176 - 1) - (g 3)) / (g 3)) a9_176)) else (kL_lists_L216 g m9 w9 Q_150 v4_176 v5_176 v7_176 v8_176 v9_176 v11_176 (v11_176 - 1) a9_176)))
noncomputable def bL_lists_L150 (g : (Nat → Int32)) (m9 : (Nat → Int32)) (w9 : (Nat → Int32))  (q_150 : Int32 → Int32 → Int32 → Int32 → Int32 → Int32 → ((Nat → Int32)) → (Int32 × (Nat → Int32))) (v4_150 : Int32) (v5_150 : Int32) (v7_150 : Int32) (v8_150 : Int32) (v9_150 : Int32) (v11_150 : Int32) (a9_150 : (Nat → Int32)) : Int32 × (Nat → Int32) := if (g 8) = 2 then (pL_lists_L176 g m9 w9 q_150 v4_150 v5_150 v7_150 v8_150 v9_150 v11_150 v11_150 (1 + (g 3)) ((g 3) * (g 3)) a9_150) else (pL_lists_L176 g m9 w9 q_150 v4_150 v5_150 v7_150 v8_150 v9_150 v11_150 v11_150 (1 + (g 3)) 0 a9_150)
noncomputable def pL_lists_L150 (g : (Nat → Int32)) (m9 : (Nat → Int32)) (w9 : (Nat → Int32))  : Nat → Int32 → Int32 → Int32 → Int32 → Int32 → Int32 → ((Nat → Int32)) → (Int32 × (Nat → Int32))
  | 0 => fun _ _ _ _ _ _ a9_150 => (0, a9_150)
  | n + 1 => bL_lists_L150 g m9 w9  (pL_lists_L150 g m9 w9  n)
def kbL_lists_L150 (g : (Nat → Int32)) (m9 : (Nat → Int32)) (w9 : (Nat → Int32))  (Q_150 : Int32 → Int32 → Int32 → Int32 → Int32 → Int32 → ((Nat → Int32)) → Prop) (v4_150 : Int32) (v5_150 : Int32) (v7_150 : Int32) (v8_150 : Int32) (v9_150 : Int32) (v11_150 : Int32) (a9_150 : (Nat → Int32)) : Prop := if (g 8) = 2 then (kL_lists_L176 g m9 w9 Q_150 v4_150 v5_150 v7_150 v8_150 v9_150 v11_150 v11_150 (1 + (g 3)) ((g 3) * (g 3)) a9_150) else (kL_lists_L176 g m9 w9 Q_150 v4_150 v5_150 v7_150 v8_150 v9_150 v11_150 v11_150 (1 + (g 3)) 0 a9_150)
noncomputable def kL_lists_L150 (g : (Nat → Int32)) (m9 : (Nat → Int32)) (w9 : (Nat → Int32))  : Nat → Int32 → Int32 → Int32 → Int32 → Int32 → Int32 → ((Nat → Int32)) → Prop
  | 0 => fun _ _ _ _ _ _ _ => False
  | n + 1 => kbL_lists_L150 g m9 w9  (kL_lists_L150 g m9 w9  n)
noncomputable def pL_lists_L148 (g : (Nat → Int32)) (m9 : (Nat → Int32)) (w9 : (Nat → Int32))  (v4_148 : Int32) (v5_148 : Int32) (v7_148 : Int32) (v8_148 : Int32) (v9_148 : Bool) (t0_148 : Bool) (a9_148 : (Nat → Int32)) : Int32 × (Nat → Int32) := pL_lists_L150 g m9 w9 fu v4_148 v5_148 v7_148 v8_148 (bz v9_148) (bz t0_148) a9_148
def kL_lists_L148 (g : (Nat → Int32)) (m9 : (Nat → Int32)) (w9 : (Nat → Int32))  (v4_148 : Int32) (v5_148 : Int32) (v7_148 : Int32) (v8_148 : Int32) (v9_148 : Bool) (t0_148 : Bool) (a9_148 : (Nat → Int32)) : Prop := kL_lists_L150 g m9 w9 fu v4_148 v5_148 v7_148 v8_148 (bz v9_148) (bz t0_148) a9_148
noncomputable def pL_lists_L130 (g : (Nat → Int32)) (m9 : (Nat → Int32)) (w9 : (Nat → Int32)) (q_29 : Int32 → Int32 → Int32 → Int32 → Bool → Bool → Int32 → ((Nat → Int32)) → (Int32 × (Nat → Int32))) (v4_130 : Int32) (v5_130 : Int32) (v7_130 : Int32) (v8_130 : Int32) (v9_130 : Bool) (v11_130 : Int32) (t0_130 : Bool) (a9_130 : (Nat → Int32)) : Int32 × (Nat → Int32) := lt (v11_130 + 1) fun (x56 : Int32) => q_29 v4_130 v5_130 v7_130 v8_130 v9_130 t0_130 x56 a9_130
def kL_lists_L130 (g : (Nat → Int32)) (m9 : (Nat → Int32)) (w9 : (Nat → Int32)) (Q_29 : Int32 → Int32 → Int32 → Int32 → Bool → Bool → Int32 → ((Nat → Int32)) → Prop) (v4_130 : Int32) (v5_130 : Int32) (v7_130 : Int32) (v8_130 : Int32) (v9_130 : Bool) (v11_130 : Int32) (t0_130 : Bool) (a9_130 : (Nat → Int32)) : Prop := lt (v11_130 + 1) fun (x56 : Int32) => Q_29 v4_130 v5_130 v7_130 v8_130 v9_130 t0_130 x56 a9_130
noncomputable def pL_lists_L125 (g : (Nat → Int32)) (m9 : (Nat → Int32)) (w9 : (Nat → Int32)) (q_29 : Int32 → Int32 → Int32 → Int32 → Bool → Bool → Int32 → ((Nat → Int32)) → (Int32 × (Nat → Int32))) (v4_125 : Int32) (v5_125 : Int32) (v7_125 : Int32) (v8_125 : Int32) (v9_125 : Bool) (v11_125 : Int32) (a9_125 : (Nat → Int32)) : Int32 × (Nat → Int32) := pL_lists_L130 g m9 w9 q_29 v4_125 v5_125 v7_125 v8_125 v9_125 v11_125 true a9_125
def kL_lists_L125 (g : (Nat → Int32)) (m9 : (Nat → Int32)) (w9 : (Nat → Int32)) (Q_29 : Int32 → Int32 → Int32 → Int32 → Bool → Bool → Int32 → ((Nat → Int32)) → Prop) (v4_125 : Int32) (v5_125 : Int32) (v7_125 : Int32) (v8_125 : Int32) (v9_125 : Bool) (v11_125 : Int32) (a9_125 : (Nat → Int32)) : Prop := kL_lists_L130 g m9 w9 Q_29 v4_125 v5_125 v7_125 v8_125 v9_125 v11_125 true a9_125
noncomputable def pL_lists_L129 (g : (Nat → Int32)) (m9 : (Nat → Int32)) (w9 : (Nat → Int32)) (q_29 : Int32 → Int32 → Int32 → Int32 → Bool → Bool → Int32 → ((Nat → Int32)) → (Int32 × (Nat → Int32))) (v4_129 : Int32) (v5_129 : Int32) (v7_129 : Int32) (v8_129 : Int32) (v9_129 : Bool) (v11_129 : Int32) (a9_129 : (Nat → Int32)) : Int32 × (Nat → Int32) := pL_lists_L130 g m9 w9 q_29 v4_129 v5_129 v7_129 v8_129 v9_129 v11_129 false a9_129
def kL_lists_L129 (g : (Nat → Int32)) (m9 : (Nat → Int32)) (w9 : (Nat → Int32)) (Q_29 : Int32 → Int32 → Int32 → Int32 → Bool → Bool → Int32 → ((Nat → Int32)) → Prop) (v4_129 : Int32) (v5_129 : Int32) (v7_129 : Int32) (v8_129 : Int32) (v9_129 : Bool) (v11_129 : Int32) (a9_129 : (Nat → Int32)) : Prop := kL_lists_L130 g m9 w9 Q_29 v4_129 v5_129 v7_129 v8_129 v9_129 v11_129 false a9_129
noncomputable def bL_lists_L29 (g : (Nat → Int32)) (m9 : (Nat → Int32)) (w9 : (Nat → Int32))  (q_29 : Int32 → Int32 → Int32 → Int32 → Bool → Bool → Int32 → ((Nat → Int32)) → (Int32 × (Nat → Int32))) (v4_29 : Int32) (v5_29 : Int32) (v7_29 : Int32) (v8_29 : Int32) (v9_29 : Bool) (v10_29 : Bool) (v11_29 : Int32) (a9_29 : (Nat → Int32)) : Int32 × (Nat → Int32) := if (g 4) ≤ v11_29 then (if v10_29 = true then (pL_lists_L148 g m9 w9 v4_29 v5_29 v7_29 v8_29 v9_29 true a9_29) else (pL_lists_L148 g m9 w9 v4_29 v5_29 v7_29 v8_29 v9_29 false a9_29)) else (lt (12 + (4 * v11_29)) fun (x54 : Int32) => if v10_29 = true then (pL_lists_L125 g m9 w9 q_29 v4_29 v5_29 v7_29 v8_29 v9_29 v11_29 a9_29) else (if (w9 x54.toNatClampNeg) = 0 then (if (pL_takes (w9 ((x54 + 1).toNatClampNeg)) (w9 ((x54 + 2).toNatClampNeg)) (w9 ((x54 + 3).toNatClampNeg)) v4_29 v5_29 v7_29 v8_29) = true then (pL_lists_L125 g m9 w9 q_29 v4_29 v5_29 v7_29 v8_29 v9_29 v11_29 a9_29) else (pL_lists_L129 g m9 w9 q_29 v4_29 v5_29 v7_29 v8_29 v9_29 v11_29 a9_29)) else (if (pL_takes (w9 ((x54 + 1).toNatClampNeg)) (w9 ((x54 + 2).toNatClampNeg)) (w9 ((x54 + 3).toNatClampNeg)) v5_29 v4_29 v8_29 v7_29) = true then (pL_lists_L125 g m9 w9 q_29 v4_29 v5_29 v7_29 v8_29 v9_29 v11_29 a9_29) else (pL_lists_L129 g m9 w9 q_29 v4_29 v5_29 v7_29 v8_29 v9_29 v11_29 a9_29))))
noncomputable def pL_lists_L29 (g : (Nat → Int32)) (m9 : (Nat → Int32)) (w9 : (Nat → Int32))  : Nat → Int32 → Int32 → Int32 → Int32 → Bool → Bool → Int32 → ((Nat → Int32)) → (Int32 × (Nat → Int32))
  | 0 => fun _ _ _ _ _ _ _ a9_29 => (0, a9_29)
  | n + 1 => bL_lists_L29 g m9 w9  (pL_lists_L29 g m9 w9  n)
def kbL_lists_L29 (g : (Nat → Int32)) (m9 : (Nat → Int32)) (w9 : (Nat → Int32))  (Q_29 : Int32 → Int32 → Int32 → Int32 → Bool → Bool → Int32 → ((Nat → Int32)) → Prop) (v4_29 : Int32) (v5_29 : Int32) (v7_29 : Int32) (v8_29 : Int32) (v9_29 : Bool) (v10_29 : Bool) (v11_29 : Int32) (a9_29 : (Nat → Int32)) : Prop := if (g 4) ≤ v11_29 then (if v10_29 = true then (kL_lists_L148 g m9 w9 v4_29 v5_29 v7_29 v8_29 v9_29 true a9_29) else (kL_lists_L148 g m9 w9 v4_29 v5_29 v7_29 v8_29 v9_29 false a9_29)) else (lt (12 + (4 * v11_29)) fun (x54 : Int32) => if v10_29 = true then (kL_lists_L125 g m9 w9 Q_29 v4_29 v5_29 v7_29 v8_29 v9_29 v11_29 a9_29) else ((vp_in x54 24) ∧ (if (w9 x54.toNatClampNeg) = 0 then ((vp_in (x54 + 1) 24) ∧ ((vp_in (x54 + 2) 24) ∧ ((vp_in (x54 + 3) 24) ∧ (if (pL_takes (w9 ((x54 + 1).toNatClampNeg)) (w9 ((x54 + 2).toNatClampNeg)) (w9 ((x54 + 3).toNatClampNeg)) v4_29 v5_29 v7_29 v8_29) = true then (kL_lists_L125 g m9 w9 Q_29 v4_29 v5_29 v7_29 v8_29 v9_29 v11_29 a9_29) else (kL_lists_L129 g m9 w9 Q_29 v4_29 v5_29 v7_29 v8_29 v9_29 v11_29 a9_29))))) else ((vp_in (x54 + 1) 24) ∧ ((vp_in (x54 + 2) 24) ∧ ((vp_in (x54 + 3) 24) ∧ (if (pL_takes (w9 ((x54 + 1).toNatClampNeg)) (w9 ((x54 + 2).toNatClampNeg)) (w9 ((x54 + 3).toNatClampNeg)) v5_29 v4_29 v8_29 v7_29) = true then (kL_lists_L125 g m9 w9 Q_29 v4_29 v5_29 v7_29 v8_29 v9_29 v11_29 a9_29) else (kL_lists_L129 g m9 w9 Q_29 v4_29 v5_29 v7_29 v8_29 v9_29 v11_29 a9_29))))))))
noncomputable def kL_lists_L29 (g : (Nat → Int32)) (m9 : (Nat → Int32)) (w9 : (Nat → Int32))  : Nat → Int32 → Int32 → Int32 → Int32 → Bool → Bool → Int32 → ((Nat → Int32)) → Prop
  | 0 => fun _ _ _ _ _ _ _ _ => False
  | n + 1 => kbL_lists_L29 g m9 w9  (kL_lists_L29 g m9 w9  n)
noncomputable def pL_lists (g : (Nat → Int32)) (m9 : (Nat → Int32)) (w9 : (Nat → Int32)) (a9 : (Nat → Int32)) (a5 : Int32) (a6 : Int32) (a7 : Int32) : Int32 × (Nat → Int32) := lt (m9 ((10 * a7).toNatClampNeg)) fun (x1 : Int32) => lt (m9 (((10 * a7) + 1).toNatClampNeg)) fun (x2 : Int32) => pL_lists_L29 g m9 w9 fu a5 a6 x1 x2 false false 0 a9
def kL_lists (g : (Nat → Int32)) (m9 : (Nat → Int32)) (w9 : (Nat → Int32)) (a9 : (Nat → Int32)) (a5 : Int32) (a6 : Int32) (a7 : Int32) : Prop := (vp_in (10 * a7) 40) ∧ (lt (m9 ((10 * a7).toNatClampNeg)) fun (x1 : Int32) => (vp_in ((10 * a7) + 1) 40) ∧ (lt (m9 (((10 * a7) + 1).toNatClampNeg)) fun (x2 : Int32) => kL_lists_L29 g m9 w9 fu a5 a6 x1 x2 false false 0 a9))
abbrev rL_lists : Room := { frames := 2, cells := 0, slots := 0, locals := 56 }
set_option maxHeartbeats 4000000 in
set_option maxRecDepth 100000 in
theorem mL_lists (l : Launch) (dC : Nat → ClassId) (dI : Nat → Nat → Nat) (cI cB cO cL : ClassId) (qg : Nat → Nat) (qm : Nat → Nat) (qw : Nat → Nat) (qa : Nat → Nat) (g : (Nat → Int32)) (m9 : (Nat → Int32)) (w9 : (Nat → Int32)) (a9 : (Nat → Int32)) (a5 : Int32) (a6 : Int32) (a7 : Int32) (hI : gD (fun _ => True) (ia1 qg ++ ia1 qm ++ ia1 qw ++ ia1 qa)) (hok : kL_lists g m9 w9 a9 a5 a6 a7) : Met l yL_lists wsL_lists rL_lists (gP (dC, dI) (tYS cI cB cO cL) (ia14 qg cI g ++ ia40 qm cI m9 ++ ia24 qw cI w9 ++ ia60 qa cI a9) [.ref (qg 0), .ref (qm 0), .ref (qw 0), .ref (qa 0), .int a5, .int a6, .int a7]) (gQi (dC, dI) (fun z9 : (Nat → Int32) => ia14 qg cI g ++ ia40 qm cI m9 ++ ia24 qw cI w9 ++ ia60 qa cI z9) (wA (ia14 qg cI g ++ ia40 qm cI m9 ++ ia24 qw cI w9 ++ ia60 qa cI a9)) (pL_lists g m9 w9 a9 a5 a6 a7)) 0 0 (wA (ia14 qg cI g ++ ia40 qm cI m9 ++ ia24 qw cI w9 ++ ia60 qa cI a9)) := by
  refine gMet (cc := cL_lists) (maxL := 20) (ret := some .int) [(0, .ref (qg 0)), (1, .ref (qm 0)), (2, .ref (qw 0)), (3, .ref (qa 0)), (4, .int a5), (5, .int a6), (6, .int a7)] (by decide) rfl rfl rfl ?_
  intro p e s mi below meth c C0 hK hP ls hl
  obtain ⟨hx, hb, hr, hml, hown, hts, hlocks⟩ := id C0
  have hown : s.vm.findClass RL = some mi.cls := hown
  have hS : va_S (wA (ia14 qg cI g ++ ia40 qm cI m9 ++ ia24 qw cI w9 ++ ia60 qa cI a9)) s.heap s.heap [] := va_S.rf
  have hD : gD (wA (ia14 qg cI g ++ ia40 qm cI m9 ++ ia24 qw cI w9 ++ ia60 qa cI a9)) (ia1 qg ++ ia1 qm ++ ia1 qw ++ ia1 qa) := gD_wA (ws := ia14 qg cI g ++ ia40 qm cI m9 ++ ia24 qw cI w9 ++ ia60 qa cI a9) hI
  have hP : va_P (dC, dI) vwCl (ia14 qg cI g ++ ia40 qm cI m9 ++ ia24 qw cI w9 ++ ia60 qa cI a9) s.heap := hP
  obtain ⟨F, hF⟩ : ∃ F, F = pL_lists g m9 w9 a9 a5 a6 a7 := ⟨_, rfl⟩
  have hf := hF
  have cn22 := hts (.constant RL 22 (100000)) (by decide +kernel)
  have cn23 := hts (.constant RL 23 (-1000000000)) (by decide +kernel)
  have J_150 : ∀ (n_150 : Nat) (v4_150 : Int32) (v5_150 : Int32) (v7_150 : Int32) (v8_150 : Int32) (v9_150 : Int32) (v11_150 : Int32) (a9_150 : (Nat → Int32)) (H : Heap) (locs : List Loc), va_P (dC, dI) vwCl (ia14 qg cI g ++ ia40 qm cI m9 ++ ia24 qw cI w9 ++ ia60 qa cI a9_150) H → va_S (wA (ia14 qg cI g ++ ia40 qm cI m9 ++ ia24 qw cI w9 ++ ia60 qa cI a9)) s.heap H locs → ∀ ls : Array Slot, lv_has ls 20 [(0, .ref (qg 0)), (2, .ref (qw 0)), (3, .ref (qa 0)), (4, .int v4_150), (5, .int v5_150), (7, .int v7_150), (8, .int v8_150), (9, .int v9_150), (11, .int v11_150)] → F = pL_lists_L150 g m9 w9 n_150 v4_150 v5_150 v7_150 v8_150 v9_150 v11_150 a9_150 → kL_lists_L150 g m9 w9 n_150 v4_150 v5_150 v7_150 v8_150 v9_150 v11_150 a9_150 → W p l e rL_lists s mi ([.ref (qg 0), .ref (qm 0), .ref (qw 0), .ref (qa 0), .int a5, .int a6, .int a7] : List Value).toArray below meth c H locs 0 0 (MQ below (gQi (dC, dI) (fun z9 : (Nat → Int32) => ia14 qg cI g ++ ia40 qm cI m9 ++ ia24 qw cI w9 ++ ia60 qa cI z9) (wA (ia14 qg cI g ++ ia40 qm cI m9 ++ ia24 qw cI w9 ++ ia60 qa cI a9)) (pL_lists g m9 w9 a9 a5 a6 a7)) ([.ref (qg 0), .ref (qm 0), .ref (qw 0), .ref (qa 0), .int a5, .int a6, .int a7] : List Value).toArray s 0 0 (wA (ia14 qg cI g ++ ia40 qm cI m9 ++ ia24 qw cI w9 ++ ia60 qa cI a9))) (F0 mi 150 ls []) := by
    intro n_150
    induction n_150 with
    | zero =>
      intro v4_150 v5_150 v7_150 v8_150 v9_150 v11_150 a9_150 H locs hP hS ls hl hf hok
      exact absurd hok (fun h => h)
    | succ n_150 ih_150 =>
      have J_578 : ∀ (v4_578 : Int32) (v5_578 : Int32) (v7_578 : Int32) (v8_578 : Int32) (v9_578 : Int32) (v11_578 : Int32) (a9_578 : (Nat → Int32)) (H : Heap) (locs : List Loc), va_P (dC, dI) vwCl (ia14 qg cI g ++ ia40 qm cI m9 ++ ia24 qw cI w9 ++ ia60 qa cI a9_578) H → va_S (wA (ia14 qg cI g ++ ia40 qm cI m9 ++ ia24 qw cI w9 ++ ia60 qa cI a9)) s.heap H locs → ∀ ls : Array Slot, lv_has ls 20 [(0, .ref (qg 0)), (2, .ref (qw 0)), (3, .ref (qa 0)), (4, .int v4_578), (5, .int v5_578), (7, .int v7_578), (8, .int v8_578), (9, .int v9_578), (11, .int v11_578)] → F = pL_lists_L578 g m9 w9 (pL_lists_L150 g m9 w9 n_150) v4_578 v5_578 v7_578 v8_578 v9_578 v11_578 a9_578 → kL_lists_L578 g m9 w9 (kL_lists_L150 g m9 w9 n_150) v4_578 v5_578 v7_578 v8_578 v9_578 v11_578 a9_578 → W p l e rL_lists s mi ([.ref (qg 0), .ref (qm 0), .ref (qw 0), .ref (qa 0), .int a5, .int a6, .int a7] : List Value).toArray below meth c H locs 0 0 (MQ below (gQi (dC, dI) (fun z9 : (Nat → Int32) => ia14 qg cI g ++ ia40 qm cI m9 ++ ia24 qw cI w9 ++ ia60 qa cI z9) (wA (ia14 qg cI g ++ ia40 qm cI m9 ++ ia24 qw cI w9 ++ ia60 qa cI a9)) (pL_lists g m9 w9 a9 a5 a6 a7)) ([.ref (qg 0), .ref (qm 0), .ref (qw 0), .ref (qa 0), .int a5, .int a6, .int a7] : List Value).toArray s 0 0 (wA (ia14 qg cI g ++ ia40 qm cI m9 ++ ia24 qw cI w9 ++ ia60 qa cI a9))) (F0 mi 578 ls []) := by
        intro v4_578 v5_578 v7_578 v8_578 v9_578 v11_578 a9_578 H locs hP hS ls hl hf hok
        obtain ⟨x38, ex38⟩ : ∃ y : Int32, y = v11_578 + 1 := ⟨_, rfl⟩
        refine lv_iinc (v := x38) (lv' := [(11, .int x38), (0, .ref (qg 0)), (2, .ref (qw 0)), (3, .ref (qa 0)), (4, .int v4_578), (5, .int v5_578), (7, .int v7_578), (8, .int v8_578), (9, .int v9_578)]) hx hb dL_lists_578 hl (k := 8) rfl (by rw [ex38]; rfl) (by decide) rfl (fun ls hl => ?_)
        have hf := lt_eq ex38 hf
        have hok := lt_ok ex38 hok
        refine lv_goto (tgt := 150) hx hb dL_lists_581 (by decide) ?_
        exact ih_150 v4_578 v5_578 v7_578 v8_578 v9_578 x38 a9_578 _ _ hP hS _ (lv_sub hl [1, 2, 3, 4, 5, 6, 7, 8, 0] rfl) hf hok
      have J_574 : ∀ (v4_574 : Int32) (v5_574 : Int32) (v7_574 : Int32) (v8_574 : Int32) (v9_574 : Int32) (v11_574 : Int32) (t1_574 : Int32) (t2_574 : Int32) (a9_574 : (Nat → Int32)) (H : Heap) (locs : List Loc), va_P (dC, dI) vwCl (ia14 qg cI g ++ ia40 qm cI m9 ++ ia24 qw cI w9 ++ ia60 qa cI a9_574) H → va_S (wA (ia14 qg cI g ++ ia40 qm cI m9 ++ ia24 qw cI w9 ++ ia60 qa cI a9)) s.heap H locs → ∀ ls : Array Slot, lv_has ls 20 [(0, .ref (qg 0)), (2, .ref (qw 0)), (3, .ref (qa 0)), (4, .int v4_574), (5, .int v5_574), (7, .int v7_574), (8, .int v8_574), (9, .int v9_574), (11, .int v11_574)] → F = pL_lists_L574 g m9 w9 (pL_lists_L150 g m9 w9 n_150) v4_574 v5_574 v7_574 v8_574 v9_574 v11_574 t1_574 t2_574 a9_574 → kL_lists_L574 g m9 w9 (kL_lists_L150 g m9 w9 n_150) v4_574 v5_574 v7_574 v8_574 v9_574 v11_574 t1_574 t2_574 a9_574 → W p l e rL_lists s mi ([.ref (qg 0), .ref (qm 0), .ref (qw 0), .ref (qa 0), .int a5, .int a6, .int a7] : List Value).toArray below meth c H locs 0 0 (MQ below (gQi (dC, dI) (fun z9 : (Nat → Int32) => ia14 qg cI g ++ ia40 qm cI m9 ++ ia24 qw cI w9 ++ ia60 qa cI z9) (wA (ia14 qg cI g ++ ia40 qm cI m9 ++ ia24 qw cI w9 ++ ia60 qa cI a9)) (pL_lists g m9 w9 a9 a5 a6 a7)) ([.ref (qg 0), .ref (qm 0), .ref (qw 0), .ref (qa 0), .int a5, .int a6, .int a7] : List Value).toArray s 0 0 (wA (ia14 qg cI g ++ ia40 qm cI m9 ++ ia24 qw cI w9 ++ ia60 qa cI a9))) (F0 mi 574 ls [.int t2_574, .int t1_574, .ref (qa 0)]) := by
        intro v4_574 v5_574 v7_574 v8_574 v9_574 v11_574 t1_574 t2_574 a9_574 H locs hP hS ls hl hf hok
        obtain ⟨h35, hok⟩ := hok
        refine va_iast (D := (dC, dI)) (tys := (tYS cI cB cO cL)) hx hb hK hP (gD_va hD rfl) hS 3 0 rfl rfl h35 dL_lists_574 (fun H locs hP _ hS => ?_)
        obtain ⟨a9_36, ea9_36⟩ : ∃ z9 : (Nat → Int32), z9 = (upd a9_574 t1_574.toNatClampNeg t2_574) := ⟨_, rfl⟩
        have hP : va_P (dC, dI) vwCl (ia14 qg cI g ++ ia40 qm cI m9 ++ ia24 qw cI w9 ++ ia60 qa cI a9_36) H := by rw [ea9_36]; exact hP
        have hf := lt_eq ea9_36 hf
        have hok := lt_ok ea9_36 hok
        obtain ⟨x37, ex37⟩ : ∃ y : Int32, y = v9_574 + 1 := ⟨_, rfl⟩
        refine lv_iinc (v := x37) (lv' := [(9, .int x37), (0, .ref (qg 0)), (2, .ref (qw 0)), (3, .ref (qa 0)), (4, .int v4_574), (5, .int v5_574), (7, .int v7_574), (8, .int v8_574), (11, .int v11_574)]) hx hb dL_lists_575 hl (k := 7) rfl (by rw [ex37]; rfl) (by decide) rfl (fun ls hl => ?_)
        have hf := lt_eq ex37 hf
        have hok := lt_ok ex37 hok
        exact J_578 v4_574 v5_574 v7_574 v8_574 x37 v11_574 a9_36 _ _ hP hS _ (lv_sub hl [1, 2, 3, 4, 5, 6, 7, 0, 8] rfl) hf hok
      have J_554 : ∀ (v4_554 : Int32) (v5_554 : Int32) (v7_554 : Int32) (v8_554 : Int32) (v9_554 : Int32) (v11_554 : Int32) (v13_554 : Int32) (t1_554 : Int32) (t2_554 : Int32) (a9_554 : (Nat → Int32)) (H : Heap) (locs : List Loc), va_P (dC, dI) vwCl (ia14 qg cI g ++ ia40 qm cI m9 ++ ia24 qw cI w9 ++ ia60 qa cI a9_554) H → va_S (wA (ia14 qg cI g ++ ia40 qm cI m9 ++ ia24 qw cI w9 ++ ia60 qa cI a9)) s.heap H locs → ∀ ls : Array Slot, lv_has ls 20 [(0, .ref (qg 0)), (2, .ref (qw 0)), (3, .ref (qa 0)), (4, .int v4_554), (5, .int v5_554), (7, .int v7_554), (8, .int v8_554), (9, .int v9_554), (11, .int v11_554), (13, .int v13_554)] → F = pL_lists_L554 g m9 w9 (pL_lists_L150 g m9 w9 n_150) v4_554 v5_554 v7_554 v8_554 v9_554 v11_554 v13_554 t1_554 t2_554 a9_554 → kL_lists_L554 g m9 w9 (kL_lists_L150 g m9 w9 n_150) v4_554 v5_554 v7_554 v8_554 v9_554 v11_554 v13_554 t1_554 t2_554 a9_554 → W p l e rL_lists s mi ([.ref (qg 0), .ref (qm 0), .ref (qw 0), .ref (qa 0), .int a5, .int a6, .int a7] : List Value).toArray below meth c H locs 0 0 (MQ below (gQi (dC, dI) (fun z9 : (Nat → Int32) => ia14 qg cI g ++ ia40 qm cI m9 ++ ia24 qw cI w9 ++ ia60 qa cI z9) (wA (ia14 qg cI g ++ ia40 qm cI m9 ++ ia24 qw cI w9 ++ ia60 qa cI a9)) (pL_lists g m9 w9 a9 a5 a6 a7)) ([.ref (qg 0), .ref (qm 0), .ref (qw 0), .ref (qa 0), .int a5, .int a6, .int a7] : List Value).toArray s 0 0 (wA (ia14 qg cI g ++ ia40 qm cI m9 ++ ia24 qw cI w9 ++ ia60 qa cI a9))) (F0 mi 554 ls [.int t2_554, .int t1_554, .ref (qa 0)]) := by
        intro v4_554 v5_554 v7_554 v8_554 v9_554 v11_554 v13_554 t1_554 t2_554 a9_554 H locs hP hS ls hl hf hok
        obtain ⟨h32, hok⟩ := hok
        refine va_iast (D := (dC, dI)) (tys := (tYS cI cB cO cL)) hx hb hK hP (gD_va hD rfl) hS 3 0 rfl rfl h32 dL_lists_554 (fun H locs hP _ hS => ?_)
        obtain ⟨a9_33, ea9_33⟩ : ∃ z9 : (Nat → Int32), z9 = (upd a9_554 t1_554.toNatClampNeg t2_554) := ⟨_, rfl⟩
        have hP : va_P (dC, dI) vwCl (ia14 qg cI g ++ ia40 qm cI m9 ++ ia24 qw cI w9 ++ ia60 qa cI a9_33) H := by rw [ea9_33]; exact hP
        have hf := lt_eq ea9_33 hf
        have hok := lt_ok ea9_33 hok
        refine lv_aload_n hx hb dL_lists_555 rfl (lv_at hl 2 rfl) ?_
        refine lv_iconst (v := 5) hx hb dL_lists_556 (by decide) ?_
        refine lv_iload hx hb dL_lists_557 (lv_at hl 7 rfl) ?_
        refine lv_imul hx hb dL_lists_559 ?_
        refine lv_iconst (v := 4) hx hb dL_lists_560 (by decide) ?_
        refine lv_iadd hx hb dL_lists_561 ?_
        refine lv_iload hx hb dL_lists_562 (lv_at hl 9 rfl) ?_
        refine lv_if_ge (tgt := 572) hx hb dL_lists_564 (by decide) (fun c34 => ?_) (fun c34 => ?_)
        · have hf := it_eq c34 hf
          have hok := it_ok c34 hok
          refine lv_iload hx hb dL_lists_572 (lv_at hl 9 rfl) ?_
          exact J_574 v4_554 v5_554 v7_554 v8_554 v9_554 v11_554 ((5 * v9_554) + 4) v13_554 a9_33 _ _ hP hS _ (lv_sub hl [0, 1, 2, 3, 4, 5, 6, 7, 8] rfl) hf hok
        · have hf := ie_eq c34 hf
          have hok := ie_ok c34 hok
          refine lv_ldc (v := (-1000000000)) hx hb hown cn23 dL_lists_567 ?_
          refine lv_goto (tgt := 574) hx hb dL_lists_569 (by decide) ?_
          exact J_574 v4_554 v5_554 v7_554 v8_554 v9_554 v11_554 ((5 * v9_554) + 4) (-1000000000) a9_33 _ _ hP hS _ (lv_sub hl [0, 1, 2, 3, 4, 5, 6, 7, 8] rfl) hf hok
      have J_514 : ∀ (v4_514 : Int32) (v5_514 : Int32) (v7_514 : Int32) (v8_514 : Int32) (v9_514 : Int32) (v11_514 : Int32) (v12_514 : Int32) (v13_514 : Int32) (v18_514 : Int32) (v19_514 : Int32) (t1_514 : Int32) (t2_514 : Int32) (a9_514 : (Nat → Int32)) (H : Heap) (locs : List Loc), va_P (dC, dI) vwCl (ia14 qg cI g ++ ia40 qm cI m9 ++ ia24 qw cI w9 ++ ia60 qa cI a9_514) H → va_S (wA (ia14 qg cI g ++ ia40 qm cI m9 ++ ia24 qw cI w9 ++ ia60 qa cI a9)) s.heap H locs → ∀ ls : Array Slot, lv_has ls 20 [(0, .ref (qg 0)), (2, .ref (qw 0)), (3, .ref (qa 0)), (4, .int v4_514), (5, .int v5_514), (7, .int v7_514), (8, .int v8_514), (9, .int v9_514), (11, .int v11_514), (12, .int v12_514), (13, .int v13_514), (18, .int v18_514), (19, .int v19_514)] → F = pL_lists_L514 g m9 w9 (pL_lists_L150 g m9 w9 n_150) v4_514 v5_514 v7_514 v8_514 v9_514 v11_514 v12_514 v13_514 v18_514 v19_514 t1_514 t2_514 a9_514 → kL_lists_L514 g m9 w9 (kL_lists_L150 g m9 w9 n_150) v4_514 v5_514 v7_514 v8_514 v9_514 v11_514 v12_514 v13_514 v18_514 v19_514 t1_514 t2_514 a9_514 → W p l e rL_lists s mi ([.ref (qg 0), .ref (qm 0), .ref (qw 0), .ref (qa 0), .int a5, .int a6, .int a7] : List Value).toArray below meth c H locs 0 0 (MQ below (gQi (dC, dI) (fun z9 : (Nat → Int32) => ia14 qg cI g ++ ia40 qm cI m9 ++ ia24 qw cI w9 ++ ia60 qa cI z9) (wA (ia14 qg cI g ++ ia40 qm cI m9 ++ ia24 qw cI w9 ++ ia60 qa cI a9)) (pL_lists g m9 w9 a9 a5 a6 a7)) ([.ref (qg 0), .ref (qm 0), .ref (qw 0), .ref (qa 0), .int a5, .int a6, .int a7] : List Value).toArray s 0 0 (wA (ia14 qg cI g ++ ia40 qm cI m9 ++ ia24 qw cI w9 ++ ia60 qa cI a9))) (F0 mi 514 ls [.int t2_514, .int t1_514, .ref (qa 0)]) := by
        intro v4_514 v5_514 v7_514 v8_514 v9_514 v11_514 v12_514 v13_514 v18_514 v19_514 t1_514 t2_514 a9_514 H locs hP hS ls hl hf hok
        obtain ⟨h25, hok⟩ := hok
        refine va_iast (D := (dC, dI)) (tys := (tYS cI cB cO cL)) hx hb hK hP (gD_va hD rfl) hS 3 0 rfl rfl h25 dL_lists_514 (fun H locs hP _ hS => ?_)
        obtain ⟨a9_26, ea9_26⟩ : ∃ z9 : (Nat → Int32), z9 = (upd a9_514 t1_514.toNatClampNeg t2_514) := ⟨_, rfl⟩
        have hP : va_P (dC, dI) vwCl (ia14 qg cI g ++ ia40 qm cI m9 ++ ia24 qw cI w9 ++ ia60 qa cI a9_26) H := by rw [ea9_26]; exact hP
        have hf := lt_eq ea9_26 hf
        have hok := lt_ok ea9_26 hok
        refine lv_aload_n hx hb dL_lists_515 rfl (lv_at hl 2 rfl) ?_
        refine lv_iconst (v := 5) hx hb dL_lists_516 (by decide) ?_
        refine lv_iload hx hb dL_lists_517 (lv_at hl 7 rfl) ?_
        refine lv_imul hx hb dL_lists_519 ?_
        refine lv_iconst (v := 1) hx hb dL_lists_520 (by decide) ?_
        refine lv_iadd hx hb dL_lists_521 ?_
        refine lv_iload hx hb dL_lists_522 (lv_at hl 11 rfl) ?_
        obtain ⟨h27, hok⟩ := hok
        refine va_iast (D := (dC, dI)) (tys := (tYS cI cB cO cL)) hx hb hK hP (gD_va hD rfl) hS 3 0 rfl rfl h27 dL_lists_524 (fun H locs hP _ hS => ?_)
        obtain ⟨a9_28, ea9_28⟩ : ∃ z9 : (Nat → Int32), z9 = (upd a9_26 (((5 * v9_514) + 1).toNatClampNeg) v18_514) := ⟨_, rfl⟩
        have hP : va_P (dC, dI) vwCl (ia14 qg cI g ++ ia40 qm cI m9 ++ ia24 qw cI w9 ++ ia60 qa cI a9_28) H := by rw [ea9_28]; exact hP
        have hf := lt_eq ea9_28 hf
        have hok := lt_ok ea9_28 hok
        refine lv_aload_n hx hb dL_lists_525 rfl (lv_at hl 2 rfl) ?_
        refine lv_iconst (v := 5) hx hb dL_lists_526 (by decide) ?_
        refine lv_iload hx hb dL_lists_527 (lv_at hl 7 rfl) ?_
        refine lv_imul hx hb dL_lists_529 ?_
        refine lv_iconst (v := 2) hx hb dL_lists_530 (by decide) ?_
        refine lv_iadd hx hb dL_lists_531 ?_
        refine lv_iload hx hb dL_lists_532 (lv_at hl 12 rfl) ?_
        obtain ⟨h29, hok⟩ := hok
        refine va_iast (D := (dC, dI)) (tys := (tYS cI cB cO cL)) hx hb hK hP (gD_va hD rfl) hS 3 0 rfl rfl h29 dL_lists_534 (fun H locs hP _ hS => ?_)
        obtain ⟨a9_30, ea9_30⟩ : ∃ z9 : (Nat → Int32), z9 = (upd a9_28 (((5 * v9_514) + 2).toNatClampNeg) v19_514) := ⟨_, rfl⟩
        have hP : va_P (dC, dI) vwCl (ia14 qg cI g ++ ia40 qm cI m9 ++ ia24 qw cI w9 ++ ia60 qa cI a9_30) H := by rw [ea9_30]; exact hP
        have hf := lt_eq ea9_30 hf
        have hok := lt_ok ea9_30 hok
        refine lv_aload_n hx hb dL_lists_535 rfl (lv_at hl 2 rfl) ?_
        refine lv_iconst (v := 5) hx hb dL_lists_536 (by decide) ?_
        refine lv_iload hx hb dL_lists_537 (lv_at hl 7 rfl) ?_
        refine lv_imul hx hb dL_lists_539 ?_
        refine lv_iconst (v := 3) hx hb dL_lists_540 (by decide) ?_
        refine lv_iadd hx hb dL_lists_541 ?_
        refine lv_iload hx hb dL_lists_542 (lv_at hl 9 rfl) ?_
        refine lv_if_ge (tgt := 552) hx hb dL_lists_544 (by decide) (fun c31 => ?_) (fun c31 => ?_)
        · have hf := it_eq c31 hf
          have hok := it_ok c31 hok
          refine lv_iload hx hb dL_lists_552 (lv_at hl 9 rfl) ?_
          exact J_554 v4_514 v5_514 v7_514 v8_514 v9_514 v11_514 v13_514 ((5 * v9_514) + 3) v12_514 a9_30 _ _ hP hS _ (lv_sub hl [0, 1, 2, 3, 4, 5, 6, 7, 8, 10] rfl) hf hok
        · have hf := ie_eq c31 hf
          have hok := ie_ok c31 hok
          refine lv_ldc (v := (-1000000000)) hx hb hown cn23 dL_lists_547 ?_
          refine lv_goto (tgt := 554) hx hb dL_lists_549 (by decide) ?_
          exact J_554 v4_514 v5_514 v7_514 v8_514 v9_514 v11_514 v13_514 ((5 * v9_514) + 3) (-1000000000) a9_30 _ _ hP hS _ (lv_sub hl [0, 1, 2, 3, 4, 5, 6, 7, 8, 10] rfl) hf hok
      have J_488 : ∀ (v4_488 : Int32) (v5_488 : Int32) (v7_488 : Int32) (v8_488 : Int32) (v9_488 : Int32) (v11_488 : Int32) (v12_488 : Int32) (v13_488 : Int32) (v18_488 : Int32) (t0_488 : Int32) (a9_488 : (Nat → Int32)) (H : Heap) (locs : List Loc), va_P (dC, dI) vwCl (ia14 qg cI g ++ ia40 qm cI m9 ++ ia24 qw cI w9 ++ ia60 qa cI a9_488) H → va_S (wA (ia14 qg cI g ++ ia40 qm cI m9 ++ ia24 qw cI w9 ++ ia60 qa cI a9)) s.heap H locs → ∀ ls : Array Slot, lv_has ls 20 [(0, .ref (qg 0)), (2, .ref (qw 0)), (3, .ref (qa 0)), (4, .int v4_488), (5, .int v5_488), (7, .int v7_488), (8, .int v8_488), (9, .int v9_488), (11, .int v11_488), (12, .int v12_488), (13, .int v13_488), (18, .int v18_488)] → F = pL_lists_L488 g m9 w9 (pL_lists_L150 g m9 w9 n_150) v4_488 v5_488 v7_488 v8_488 v9_488 v11_488 v12_488 v13_488 v18_488 t0_488 a9_488 → kL_lists_L488 g m9 w9 (kL_lists_L150 g m9 w9 n_150) v4_488 v5_488 v7_488 v8_488 v9_488 v11_488 v12_488 v13_488 v18_488 t0_488 a9_488 → W p l e rL_lists s mi ([.ref (qg 0), .ref (qm 0), .ref (qw 0), .ref (qa 0), .int a5, .int a6, .int a7] : List Value).toArray below meth c H locs 0 0 (MQ below (gQi (dC, dI) (fun z9 : (Nat → Int32) => ia14 qg cI g ++ ia40 qm cI m9 ++ ia24 qw cI w9 ++ ia60 qa cI z9) (wA (ia14 qg cI g ++ ia40 qm cI m9 ++ ia24 qw cI w9 ++ ia60 qa cI a9)) (pL_lists g m9 w9 a9 a5 a6 a7)) ([.ref (qg 0), .ref (qm 0), .ref (qw 0), .ref (qa 0), .int a5, .int a6, .int a7] : List Value).toArray s 0 0 (wA (ia14 qg cI g ++ ia40 qm cI m9 ++ ia24 qw cI w9 ++ ia60 qa cI a9))) (F0 mi 488 ls [.int t0_488]) := by
        intro v4_488 v5_488 v7_488 v8_488 v9_488 v11_488 v12_488 v13_488 v18_488 t0_488 a9_488 H locs hP hS ls hl hf hok
        refine lv_istore (lv' := [(19, .int t0_488), (0, .ref (qg 0)), (2, .ref (qw 0)), (3, .ref (qa 0)), (4, .int v4_488), (5, .int v5_488), (7, .int v7_488), (8, .int v8_488), (9, .int v9_488), (11, .int v11_488), (12, .int v12_488), (13, .int v13_488), (18, .int v18_488)]) hx hb dL_lists_488 hl (by decide) rfl (fun ls hl => ?_)
        refine lv_aload_n hx hb dL_lists_490 rfl (lv_at hl 3 rfl) ?_
        refine lv_iconst (v := 5) hx hb dL_lists_491 (by decide) ?_
        refine lv_iload hx hb dL_lists_492 (lv_at hl 8 rfl) ?_
        refine lv_imul hx hb dL_lists_494 ?_
        refine lv_iload hx hb dL_lists_495 (lv_at hl 10 rfl) ?_
        refine lv_if_ge (tgt := 504) hx hb dL_lists_497 (by decide) (fun c23 => ?_) (fun c23 => ?_)
        · have hf := it_eq c23 hf
          have hok := it_ok c23 hok
          refine lv_iload hx hb dL_lists_504 (lv_at hl 11 rfl) ?_
          refine lv_if_ge (tgt := 513) hx hb dL_lists_506 (by decide) (fun c24 => ?_) (fun c24 => ?_)
          · have hf := it_eq c24 hf
            have hok := it_ok c24 hok
            refine lv_iconst (v := 2) hx hb dL_lists_513 (by decide) ?_
            exact J_514 v4_488 v5_488 v7_488 v8_488 v9_488 v11_488 v12_488 v13_488 v18_488 t0_488 (5 * v9_488) 2 a9_488 _ _ hP hS _ (lv_sub hl [1, 2, 3, 4, 5, 6, 7, 8, 9, 10, 11, 12, 0] rfl) hf hok
          · have hf := ie_eq c24 hf
            have hok := ie_ok c24 hok
            refine lv_iconst (v := 1) hx hb dL_lists_509 (by decide) ?_
            refine lv_goto (tgt := 514) hx hb dL_lists_510 (by decide) ?_
            exact J_514 v4_488 v5_488 v7_488 v8_488 v9_488 v11_488 v12_488 v13_488 v18_488 t0_488 (5 * v9_488) 1 a9_488 _ _ hP hS _ (lv_sub hl [1, 2, 3, 4, 5, 6, 7, 8, 9, 10, 11, 12, 0] rfl) hf hok
        · have hf := ie_eq c23 hf
          have hok := ie_ok c23 hok
          refine lv_iconst (v := 0) hx hb dL_lists_500 (by decide) ?_
          refine lv_goto (tgt := 514) hx hb dL_lists_501 (by decide) ?_
          exact J_514 v4_488 v5_488 v7_488 v8_488 v9_488 v11_488 v12_488 v13_488 v18_488 t0_488 (5 * v9_488) 0 a9_488 _ _ hP hS _ (lv_sub hl [1, 2, 3, 4, 5, 6, 7, 8, 9, 10, 11, 12, 0] rfl) hf hok
      have J_459 : ∀ (v4_459 : Int32) (v5_459 : Int32) (v7_459 : Int32) (v8_459 : Int32) (v9_459 : Int32) (v11_459 : Int32) (v12_459 : Int32) (v13_459 : Int32) (v18_459 : Int32) (t0_459 : Int32) (a9_459 : (Nat → Int32)) (H : Heap) (locs : List Loc), va_P (dC, dI) vwCl (ia14 qg cI g ++ ia40 qm cI m9 ++ ia24 qw cI w9 ++ ia60 qa cI a9_459) H → va_S (wA (ia14 qg cI g ++ ia40 qm cI m9 ++ ia24 qw cI w9 ++ ia60 qa cI a9)) s.heap H locs → ∀ ls : Array Slot, lv_has ls 20 [(0, .ref (qg 0)), (2, .ref (qw 0)), (3, .ref (qa 0)), (4, .int v4_459), (5, .int v5_459), (7, .int v7_459), (8, .int v8_459), (9, .int v9_459), (11, .int v11_459), (12, .int v12_459), (13, .int v13_459), (18, .int v18_459)] → F = pL_lists_L459 g m9 w9 (pL_lists_L150 g m9 w9 n_150) v4_459 v5_459 v7_459 v8_459 v9_459 v11_459 v12_459 v13_459 v18_459 t0_459 a9_459 → kL_lists_L459 g m9 w9 (kL_lists_L150 g m9 w9 n_150) v4_459 v5_459 v7_459 v8_459 v9_459 v11_459 v12_459 v13_459 v18_459 t0_459 a9_459 → W p l e rL_lists s mi ([.ref (qg 0), .ref (qm 0), .ref (qw 0), .ref (qa 0), .int a5, .int a6, .int a7] : List Value).toArray below meth c H locs 0 0 (MQ below (gQi (dC, dI) (fun z9 : (Nat → Int32) => ia14 qg cI g ++ ia40 qm cI m9 ++ ia24 qw cI w9 ++ ia60 qa cI z9) (wA (ia14 qg cI g ++ ia40 qm cI m9 ++ ia24 qw cI w9 ++ ia60 qa cI a9)) (pL_lists g m9 w9 a9 a5 a6 a7)) ([.ref (qg 0), .ref (qm 0), .ref (qw 0), .ref (qa 0), .int a5, .int a6, .int a7] : List Value).toArray s 0 0 (wA (ia14 qg cI g ++ ia40 qm cI m9 ++ ia24 qw cI w9 ++ ia60 qa cI a9))) (F0 mi 459 ls [.int t0_459]) := by
        intro v4_459 v5_459 v7_459 v8_459 v9_459 v11_459 v12_459 v13_459 v18_459 t0_459 a9_459 H locs hP hS ls hl hf hok
        refine lv_istore (lv' := [(19, .int t0_459), (0, .ref (qg 0)), (2, .ref (qw 0)), (3, .ref (qa 0)), (4, .int v4_459), (5, .int v5_459), (7, .int v7_459), (8, .int v8_459), (9, .int v9_459), (11, .int v11_459), (12, .int v12_459), (13, .int v13_459), (18, .int v18_459)]) hx hb dL_lists_459 hl (by decide) rfl (fun ls hl => ?_)
        refine lv_iload hx hb dL_lists_461 (lv_at hl 11 rfl) ?_
        refine lv_if_ge (tgt := 471) hx hb dL_lists_463 (by decide) (fun c22 => ?_) (fun c22 => ?_)
        · have hf := it_eq c22 hf
          have hok := it_ok c22 hok
          refine lv_iload hx hb dL_lists_471 (lv_at hl 0 rfl) ?_
          refine lv_bipush (v := 100) hx hb dL_lists_473 (by decide) ?_
          refine lv_aload_n hx hb dL_lists_475 rfl (lv_at hl 2 rfl) ?_
          refine lv_iconst (v := 3) hx hb dL_lists_476 (by decide) ?_
          refine lv_iload hx hb dL_lists_477 (lv_at hl 11 rfl) ?_
          refine lv_imul hx hb dL_lists_479 ?_
          refine lv_iconst (v := 2) hx hb dL_lists_480 (by decide) ?_
          refine lv_iadd hx hb dL_lists_481 ?_
          obtain ⟨h39, hok⟩ := hok
          refine va_iald (D := (dC, dI)) (tys := (tYS cI cB cO cL)) hx hb hK hP 2 0 rfl rfl h39 dL_lists_482 ?_
          refine lv_isub hx hb dL_lists_483 ?_
          refine lv_imul hx hb dL_lists_484 ?_
          refine lv_bipush (v := 100) hx hb dL_lists_485 (by decide) ?_
          refine lv_idiv hx hb dL_lists_487 (by decide) ?_
          exact J_488 v4_459 v5_459 v7_459 v8_459 v9_459 v11_459 v12_459 v13_459 v18_459 ((t0_459 * (100 - (w9 (((3 * v13_459) + 2).toNatClampNeg)))) / 100) a9_459 _ _ hP hS _ (lv_sub hl [1, 2, 3, 4, 5, 6, 7, 8, 9, 10, 11, 12] rfl) hf hok
        · have hf := ie_eq c22 hf
          have hok := ie_ok c22 hok
          refine lv_iload hx hb dL_lists_466 (lv_at hl 0 rfl) ?_
          refine lv_goto (tgt := 488) hx hb dL_lists_468 (by decide) ?_
          exact J_488 v4_459 v5_459 v7_459 v8_459 v9_459 v11_459 v12_459 v13_459 v18_459 t0_459 a9_459 _ _ hP hS _ (lv_sub hl [1, 2, 3, 4, 5, 6, 7, 8, 9, 10, 11, 12] rfl) hf hok
      have J_392 : ∀ (v4_392 : Int32) (v5_392 : Int32) (v7_392 : Int32) (v8_392 : Int32) (v9_392 : Int32) (v11_392 : Int32) (v12_392 : Int32) (v13_392 : Int32) (v16_392 : Int32) (t0_392 : Int32) (a9_392 : (Nat → Int32)) (H : Heap) (locs : List Loc), va_P (dC, dI) vwCl (ia14 qg cI g ++ ia40 qm cI m9 ++ ia24 qw cI w9 ++ ia60 qa cI a9_392) H → va_S (wA (ia14 qg cI g ++ ia40 qm cI m9 ++ ia24 qw cI w9 ++ ia60 qa cI a9)) s.heap H locs → ∀ ls : Array Slot, lv_has ls 20 [(0, .ref (qg 0)), (2, .ref (qw 0)), (3, .ref (qa 0)), (4, .int v4_392), (5, .int v5_392), (7, .int v7_392), (8, .int v8_392), (9, .int v9_392), (11, .int v11_392), (12, .int v12_392), (13, .int v13_392), (16, .int v16_392)] → F = pL_lists_L392 g m9 w9 (pL_lists_L150 g m9 w9 n_150) v4_392 v5_392 v7_392 v8_392 v9_392 v11_392 v12_392 v13_392 v16_392 t0_392 a9_392 → kL_lists_L392 g m9 w9 (kL_lists_L150 g m9 w9 n_150) v4_392 v5_392 v7_392 v8_392 v9_392 v11_392 v12_392 v13_392 v16_392 t0_392 a9_392 → W p l e rL_lists s mi ([.ref (qg 0), .ref (qm 0), .ref (qw 0), .ref (qa 0), .int a5, .int a6, .int a7] : List Value).toArray below meth c H locs 0 0 (MQ below (gQi (dC, dI) (fun z9 : (Nat → Int32) => ia14 qg cI g ++ ia40 qm cI m9 ++ ia24 qw cI w9 ++ ia60 qa cI z9) (wA (ia14 qg cI g ++ ia40 qm cI m9 ++ ia24 qw cI w9 ++ ia60 qa cI a9)) (pL_lists g m9 w9 a9 a5 a6 a7)) ([.ref (qg 0), .ref (qm 0), .ref (qw 0), .ref (qa 0), .int a5, .int a6, .int a7] : List Value).toArray s 0 0 (wA (ia14 qg cI g ++ ia40 qm cI m9 ++ ia24 qw cI w9 ++ ia60 qa cI a9))) (F0 mi 392 ls [.int t0_392]) := by
        intro v4_392 v5_392 v7_392 v8_392 v9_392 v11_392 v12_392 v13_392 v16_392 t0_392 a9_392 H locs hP hS ls hl hf hok
        refine lv_istore (lv' := [(17, .int t0_392), (0, .ref (qg 0)), (2, .ref (qw 0)), (3, .ref (qa 0)), (4, .int v4_392), (5, .int v5_392), (7, .int v7_392), (8, .int v8_392), (9, .int v9_392), (11, .int v11_392), (12, .int v12_392), (13, .int v13_392), (16, .int v16_392)]) hx hb dL_lists_392 hl (by decide) rfl (fun ls hl => ?_)
        refine lv_iload hx hb dL_lists_394 (lv_at hl 12 rfl) ?_
        refine lv_iload hx hb dL_lists_396 (lv_at hl 6 rfl) ?_
        refine lv_isub hx hb dL_lists_398 ?_
        refine lv_iload hx hb dL_lists_399 (lv_at hl 12 rfl) ?_
        refine lv_iload hx hb dL_lists_401 (lv_at hl 6 rfl) ?_
        refine lv_isub hx hb dL_lists_403 ?_
        refine lv_imul hx hb dL_lists_404 ?_
        refine lv_iload hx hb dL_lists_405 (lv_at hl 0 rfl) ?_
        refine lv_iload hx hb dL_lists_407 (lv_at hl 7 rfl) ?_
        refine lv_isub hx hb dL_lists_409 ?_
        refine lv_iload hx hb dL_lists_410 (lv_at hl 0 rfl) ?_
        refine lv_iload hx hb dL_lists_412 (lv_at hl 7 rfl) ?_
        refine lv_isub hx hb dL_lists_414 ?_
        refine lv_imul hx hb dL_lists_415 ?_
        refine lv_iadd hx hb dL_lists_416 ?_
        obtain ⟨h17, hok⟩ := hok
        refine gro_i (va_runS (As := [.int (((v16_392 - v7_392) * (v16_392 - v7_392)) + ((t0_392 - v8_392) * (t0_392 - v8_392)))]) (rest := []) ⟨hx, hb, hml, hown, hts⟩ (mL_root l dC dI cI cB cO cL  (((v16_392 - v7_392) * (v16_392 - v7_392)) + ((t0_392 - v8_392) * (t0_392 - v8_392)))  h17) (va_cwS 1 hts gL_lists_L_root rfl rfl rfl (by decide +kernel) ⟨Nat.le_of_ble_eq_true rfl, Nat.le_of_ble_eq_true rfl⟩) ⟨gP_blind, gP_ok va_P_nil hK⟩ rfl rfl hl.1 rfl (lv_room (Nat.le_of_ble_eq_true rfl)) dL_lists_417 ⟨Nat.zero_le _, Nat.zero_le _⟩) ?_
        refine lv_topi (fun x18 ex18 => ?_)
        have hf := lt_eq ex18 hf
        have hok := lt_ok ex18 hok
        refine lv_istore (lv' := [(18, .int x18), (17, .int t0_392), (0, .ref (qg 0)), (2, .ref (qw 0)), (3, .ref (qa 0)), (4, .int v4_392), (5, .int v5_392), (7, .int v7_392), (8, .int v8_392), (9, .int v9_392), (11, .int v11_392), (12, .int v12_392), (13, .int v13_392), (16, .int v16_392)]) hx hb dL_lists_420 hl (by decide) rfl (fun ls hl => ?_)
        refine lv_ldc (v := 100000) hx hb hown cn22 dL_lists_422 ?_
        refine lv_iload hx hb dL_lists_424 (lv_at hl 0 rfl) ?_
        refine lv_bipush (v := 100) hx hb dL_lists_426 (by decide) ?_
        refine lv_iadd hx hb dL_lists_428 ?_
        obtain ⟨h19, hok⟩ := hok
        refine lv_idiv hx hb dL_lists_429 h19 ?_
        refine lv_topi (fun x20 ex20 => ?_)
        have hf := lt_eq ex20 hf
        have hok := lt_ok ex20 hok
        refine lv_istore (lv' := [(19, .int x20), (18, .int x18), (17, .int t0_392), (0, .ref (qg 0)), (2, .ref (qw 0)), (3, .ref (qa 0)), (4, .int v4_392), (5, .int v5_392), (7, .int v7_392), (8, .int v8_392), (9, .int v9_392), (11, .int v11_392), (12, .int v12_392), (13, .int v13_392), (16, .int v16_392)]) hx hb dL_lists_430 hl (by decide) rfl (fun ls hl => ?_)
        refine lv_iload hx hb dL_lists_432 (lv_at hl 12 rfl) ?_
        refine lv_if_ge (tgt := 442) hx hb dL_lists_434 (by decide) (fun c21 => ?_) (fun c21 => ?_)
        · have hf := it_eq c21 hf
          have hok := it_ok c21 hok
          refine lv_iload hx hb dL_lists_442 (lv_at hl 0 rfl) ?_
          refine lv_bipush (v := 100) hx hb dL_lists_444 (by decide) ?_
          refine lv_aload_n hx hb dL_lists_446 rfl (lv_at hl 4 rfl) ?_
          refine lv_iconst (v := 3) hx hb dL_lists_447 (by decide) ?_
          refine lv_iload hx hb dL_lists_448 (lv_at hl 12 rfl) ?_
          refine lv_imul hx hb dL_lists_450 ?_
          refine lv_iconst (v := 2) hx hb dL_lists_451 (by decide) ?_
          refine lv_iadd hx hb dL_lists_452 ?_
          obtain ⟨h40, hok⟩ := hok
          refine va_iald (D := (dC, dI)) (tys := (tYS cI cB cO cL)) hx hb hK hP 2 0 rfl rfl h40 dL_lists_453 ?_
          refine lv_isub hx hb dL_lists_454 ?_
          refine lv_imul hx hb dL_lists_455 ?_
          refine lv_bipush (v := 100) hx hb dL_lists_456 (by decide) ?_
          refine lv_idiv hx hb dL_lists_458 (by decide) ?_
          exact J_459 v4_392 v5_392 v7_392 v8_392 v9_392 v11_392 v12_392 v13_392 x18 ((x20 * (100 - (w9 (((3 * v12_392) + 2).toNatClampNeg)))) / 100) a9_392 _ _ hP hS _ (lv_sub hl [3, 4, 5, 6, 7, 8, 9, 10, 11, 12, 13, 1] rfl) hf hok
        · have hf := ie_eq c21 hf
          have hok := ie_ok c21 hok
          refine lv_iload hx hb dL_lists_437 (lv_at hl 0 rfl) ?_
          refine lv_goto (tgt := 459) hx hb dL_lists_439 (by decide) ?_
          exact J_459 v4_392 v5_392 v7_392 v8_392 v9_392 v11_392 v12_392 v13_392 x18 x20 a9_392 _ _ hP hS _ (lv_sub hl [3, 4, 5, 6, 7, 8, 9, 10, 11, 12, 13, 1] rfl) hf hok
      have J_374 : ∀ (v4_374 : Int32) (v5_374 : Int32) (v7_374 : Int32) (v8_374 : Int32) (v9_374 : Int32) (v11_374 : Int32) (v12_374 : Int32) (v13_374 : Int32) (v15_374 : Int32) (v16_374 : Int32) (a9_374 : (Nat → Int32)) (H : Heap) (locs : List Loc), va_P (dC, dI) vwCl (ia14 qg cI g ++ ia40 qm cI m9 ++ ia24 qw cI w9 ++ ia60 qa cI a9_374) H → va_S (wA (ia14 qg cI g ++ ia40 qm cI m9 ++ ia24 qw cI w9 ++ ia60 qa cI a9)) s.heap H locs → ∀ ls : Array Slot, lv_has ls 20 [(0, .ref (qg 0)), (2, .ref (qw 0)), (3, .ref (qa 0)), (4, .int v4_374), (5, .int v5_374), (7, .int v7_374), (8, .int v8_374), (9, .int v9_374), (11, .int v11_374), (12, .int v12_374), (13, .int v13_374), (15, .int v15_374), (16, .int v16_374)] → F = pL_lists_L374 g m9 w9 (pL_lists_L150 g m9 w9 n_150) v4_374 v5_374 v7_374 v8_374 v9_374 v11_374 v12_374 v13_374 v15_374 v16_374 a9_374 → kL_lists_L374 g m9 w9 (kL_lists_L150 g m9 w9 n_150) v4_374 v5_374 v7_374 v8_374 v9_374 v11_374 v12_374 v13_374 v15_374 v16_374 a9_374 → W p l e rL_lists s mi ([.ref (qg 0), .ref (qm 0), .ref (qw 0), .ref (qa 0), .int a5, .int a6, .int a7] : List Value).toArray below meth c H locs 0 0 (MQ below (gQi (dC, dI) (fun z9 : (Nat → Int32) => ia14 qg cI g ++ ia40 qm cI m9 ++ ia24 qw cI w9 ++ ia60 qa cI z9) (wA (ia14 qg cI g ++ ia40 qm cI m9 ++ ia24 qw cI w9 ++ ia60 qa cI a9)) (pL_lists g m9 w9 a9 a5 a6 a7)) ([.ref (qg 0), .ref (qm 0), .ref (qw 0), .ref (qa 0), .int a5, .int a6, .int a7] : List Value).toArray s 0 0 (wA (ia14 qg cI g ++ ia40 qm cI m9 ++ ia24 qw cI w9 ++ ia60 qa cI a9))) (F0 mi 374 ls []) := by
        intro v4_374 v5_374 v7_374 v8_374 v9_374 v11_374 v12_374 v13_374 v15_374 v16_374 a9_374 H locs hP hS ls hl hf hok
        refine lv_iload hx hb dL_lists_374 (lv_at hl 11 rfl) ?_
        refine lv_goto (tgt := 392) hx hb dL_lists_376 (by decide) ?_
        exact J_392 v4_374 v5_374 v7_374 v8_374 v9_374 v11_374 v12_374 v13_374 v16_374 v15_374 a9_374 _ _ hP hS _ (lv_sub hl [0, 1, 2, 3, 4, 5, 6, 7, 8, 9, 10, 12] rfl) hf hok
      have J_358 : ∀ (v4_358 : Int32) (v5_358 : Int32) (v7_358 : Int32) (v8_358 : Int32) (v9_358 : Int32) (v11_358 : Int32) (v12_358 : Int32) (v13_358 : Int32) (v15_358 : Int32) (t0_358 : Int32) (a9_358 : (Nat → Int32)) (H : Heap) (locs : List Loc), va_P (dC, dI) vwCl (ia14 qg cI g ++ ia40 qm cI m9 ++ ia24 qw cI w9 ++ ia60 qa cI a9_358) H → va_S (wA (ia14 qg cI g ++ ia40 qm cI m9 ++ ia24 qw cI w9 ++ ia60 qa cI a9)) s.heap H locs → ∀ ls : Array Slot, lv_has ls 20 [(0, .ref (qg 0)), (2, .ref (qw 0)), (3, .ref (qa 0)), (4, .int v4_358), (5, .int v5_358), (7, .int v7_358), (8, .int v8_358), (9, .int v9_358), (11, .int v11_358), (12, .int v12_358), (13, .int v13_358), (15, .int v15_358)] → F = pL_lists_L358 g m9 w9 (pL_lists_L150 g m9 w9 n_150) v4_358 v5_358 v7_358 v8_358 v9_358 v11_358 v12_358 v13_358 v15_358 t0_358 a9_358 → kL_lists_L358 g m9 w9 (kL_lists_L150 g m9 w9 n_150) v4_358 v5_358 v7_358 v8_358 v9_358 v11_358 v12_358 v13_358 v15_358 t0_358 a9_358 → W p l e rL_lists s mi ([.ref (qg 0), .ref (qm 0), .ref (qw 0), .ref (qa 0), .int a5, .int a6, .int a7] : List Value).toArray below meth c H locs 0 0 (MQ below (gQi (dC, dI) (fun z9 : (Nat → Int32) => ia14 qg cI g ++ ia40 qm cI m9 ++ ia24 qw cI w9 ++ ia60 qa cI z9) (wA (ia14 qg cI g ++ ia40 qm cI m9 ++ ia24 qw cI w9 ++ ia60 qa cI a9)) (pL_lists g m9 w9 a9 a5 a6 a7)) ([.ref (qg 0), .ref (qm 0), .ref (qw 0), .ref (qa 0), .int a5, .int a6, .int a7] : List Value).toArray s 0 0 (wA (ia14 qg cI g ++ ia40 qm cI m9 ++ ia24 qw cI w9 ++ ia60 qa cI a9))) (F0 mi 358 ls [.int t0_358]) := by
        intro v4_358 v5_358 v7_358 v8_358 v9_358 v11_358 v12_358 v13_358 v15_358 t0_358 a9_358 H locs hP hS ls hl hf hok
        refine lv_istore (lv' := [(16, .int t0_358), (0, .ref (qg 0)), (2, .ref (qw 0)), (3, .ref (qa 0)), (4, .int v4_358), (5, .int v5_358), (7, .int v7_358), (8, .int v8_358), (9, .int v9_358), (11, .int v11_358), (12, .int v12_358), (13, .int v13_358), (15, .int v15_358)]) hx hb dL_lists_358 hl (by decide) rfl (fun ls hl => ?_)
        refine lv_iload hx hb dL_lists_360 (lv_at hl 11 rfl) ?_
        refine lv_if_lt (tgt := 374) hx hb dL_lists_362 (by decide) (fun c16 => ?_) (fun c16 => ?_)
        · have hf := it_eq c16 hf
          have hok := it_ok c16 hok
          exact J_374 v4_358 v5_358 v7_358 v8_358 v9_358 v11_358 v12_358 v13_358 v15_358 t0_358 a9_358 _ _ hP hS _ (lv_sub hl [1, 2, 3, 4, 5, 6, 7, 8, 9, 10, 11, 12, 0] rfl) hf hok
        · have hf := ie_eq c16 hf
          have hok := ie_ok c16 hok
          refine lv_aload_n hx hb dL_lists_365 rfl (lv_at hl 2 rfl) ?_
          refine lv_iconst (v := 3) hx hb dL_lists_366 (by decide) ?_
          refine lv_iload hx hb dL_lists_367 (lv_at hl 11 rfl) ?_
          refine lv_imul hx hb dL_lists_369 ?_
          obtain ⟨h43, hok⟩ := hok
          refine va_iald (D := (dC, dI)) (tys := (tYS cI cB cO cL)) hx hb hK hP 2 0 rfl rfl h43 dL_lists_370 ?_
          refine lv_if_ne (tgt := 379) hx hb dL_lists_371 (by decide) (fun c41 => ?_) (fun c41 => ?_)
          · have hf := ie_eq c41 hf
            have hok := ie_ok c41 hok
            refine lv_iconst (v := 2) hx hb dL_lists_379 (by decide) ?_
            refine lv_aload_n hx hb dL_lists_380 rfl (lv_at hl 2 rfl) ?_
            refine lv_iconst (v := 3) hx hb dL_lists_381 (by decide) ?_
            refine lv_iload hx hb dL_lists_382 (lv_at hl 11 rfl) ?_
            refine lv_imul hx hb dL_lists_384 ?_
            refine lv_iconst (v := 1) hx hb dL_lists_385 (by decide) ?_
            refine lv_iadd hx hb dL_lists_386 ?_
            obtain ⟨h42, hok⟩ := hok
            refine va_iald (D := (dC, dI)) (tys := (tYS cI cB cO cL)) hx hb hK hP 2 0 rfl rfl h42 dL_lists_387 ?_
            refine lv_imul hx hb dL_lists_388 ?_
            refine lv_iload hx hb dL_lists_389 (lv_at hl 12 rfl) ?_
            refine lv_isub hx hb dL_lists_391 ?_
            exact J_392 v4_358 v5_358 v7_358 v8_358 v9_358 v11_358 v12_358 v13_358 t0_358 ((2 * (w9 (((3 * v13_358) + 1).toNatClampNeg))) - v15_358) a9_358 _ _ hP hS _ (lv_sub hl [1, 2, 3, 4, 5, 6, 7, 8, 9, 10, 11, 0] rfl) hf hok
          · have hf := it_eq c41 hf
            have hok := it_ok c41 hok
            exact J_374 v4_358 v5_358 v7_358 v8_358 v9_358 v11_358 v12_358 v13_358 v15_358 t0_358 a9_358 _ _ hP hS _ (lv_sub hl [1, 2, 3, 4, 5, 6, 7, 8, 9, 10, 11, 12, 0] rfl) hf hok
      have J_340 : ∀ (v4_340 : Int32) (v5_340 : Int32) (v7_340 : Int32) (v8_340 : Int32) (v9_340 : Int32) (v11_340 : Int32) (v12_340 : Int32) (v13_340 : Int32) (v14_340 : Int32) (v15_340 : Int32) (a9_340 : (Nat → Int32)) (H : Heap) (locs : List Loc), va_P (dC, dI) vwCl (ia14 qg cI g ++ ia40 qm cI m9 ++ ia24 qw cI w9 ++ ia60 qa cI a9_340) H → va_S (wA (ia14 qg cI g ++ ia40 qm cI m9 ++ ia24 qw cI w9 ++ ia60 qa cI a9)) s.heap H locs → ∀ ls : Array Slot, lv_has ls 20 [(0, .ref (qg 0)), (2, .ref (qw 0)), (3, .ref (qa 0)), (4, .int v4_340), (5, .int v5_340), (7, .int v7_340), (8, .int v8_340), (9, .int v9_340), (11, .int v11_340), (12, .int v12_340), (13, .int v13_340), (14, .int v14_340), (15, .int v15_340)] → F = pL_lists_L340 g m9 w9 (pL_lists_L150 g m9 w9 n_150) v4_340 v5_340 v7_340 v8_340 v9_340 v11_340 v12_340 v13_340 v14_340 v15_340 a9_340 → kL_lists_L340 g m9 w9 (kL_lists_L150 g m9 w9 n_150) v4_340 v5_340 v7_340 v8_340 v9_340 v11_340 v12_340 v13_340 v14_340 v15_340 a9_340 → W p l e rL_lists s mi ([.ref (qg 0), .ref (qm 0), .ref (qw 0), .ref (qa 0), .int a5, .int a6, .int a7] : List Value).toArray below meth c H locs 0 0 (MQ below (gQi (dC, dI) (fun z9 : (Nat → Int32) => ia14 qg cI g ++ ia40 qm cI m9 ++ ia24 qw cI w9 ++ ia60 qa cI z9) (wA (ia14 qg cI g ++ ia40 qm cI m9 ++ ia24 qw cI w9 ++ ia60 qa cI a9)) (pL_lists g m9 w9 a9 a5 a6 a7)) ([.ref (qg 0), .ref (qm 0), .ref (qw 0), .ref (qa 0), .int a5, .int a6, .int a7] : List Value).toArray s 0 0 (wA (ia14 qg cI g ++ ia40 qm cI m9 ++ ia24 qw cI w9 ++ ia60 qa cI a9))) (F0 mi 340 ls []) := by
        intro v4_340 v5_340 v7_340 v8_340 v9_340 v11_340 v12_340 v13_340 v14_340 v15_340 a9_340 H locs hP hS ls hl hf hok
        refine lv_iload hx hb dL_lists_340 (lv_at hl 11 rfl) ?_
        refine lv_goto (tgt := 358) hx hb dL_lists_342 (by decide) ?_
        exact J_358 v4_340 v5_340 v7_340 v8_340 v9_340 v11_340 v12_340 v13_340 v15_340 v14_340 a9_340 _ _ hP hS _ (lv_sub hl [0, 1, 2, 3, 4, 5, 6, 7, 8, 9, 10, 12] rfl) hf hok
      have J_323 : ∀ (v4_323 : Int32) (v5_323 : Int32) (v7_323 : Int32) (v8_323 : Int32) (v9_323 : Int32) (v11_323 : Int32) (v12_323 : Int32) (v13_323 : Int32) (v14_323 : Int32) (t0_323 : Int32) (a9_323 : (Nat → Int32)) (H : Heap) (locs : List Loc), va_P (dC, dI) vwCl (ia14 qg cI g ++ ia40 qm cI m9 ++ ia24 qw cI w9 ++ ia60 qa cI a9_323) H → va_S (wA (ia14 qg cI g ++ ia40 qm cI m9 ++ ia24 qw cI w9 ++ ia60 qa cI a9)) s.heap H locs → ∀ ls : Array Slot, lv_has ls 20 [(0, .ref (qg 0)), (2, .ref (qw 0)), (3, .ref (qa 0)), (4, .int v4_323), (5, .int v5_323), (7, .int v7_323), (8, .int v8_323), (9, .int v9_323), (11, .int v11_323), (12, .int v12_323), (13, .int v13_323), (14, .int v14_323)] → F = pL_lists_L323 g m9 w9 (pL_lists_L150 g m9 w9 n_150) v4_323 v5_323 v7_323 v8_323 v9_323 v11_323 v12_323 v13_323 v14_323 t0_323 a9_323 → kL_lists_L323 g m9 w9 (kL_lists_L150 g m9 w9 n_150) v4_323 v5_323 v7_323 v8_323 v9_323 v11_323 v12_323 v13_323 v14_323 t0_323 a9_323 → W p l e rL_lists s mi ([.ref (qg 0), .ref (qm 0), .ref (qw 0), .ref (qa 0), .int a5, .int a6, .int a7] : List Value).toArray below meth c H locs 0 0 (MQ below (gQi (dC, dI) (fun z9 : (Nat → Int32) => ia14 qg cI g ++ ia40 qm cI m9 ++ ia24 qw cI w9 ++ ia60 qa cI z9) (wA (ia14 qg cI g ++ ia40 qm cI m9 ++ ia24 qw cI w9 ++ ia60 qa cI a9)) (pL_lists g m9 w9 a9 a5 a6 a7)) ([.ref (qg 0), .ref (qm 0), .ref (qw 0), .ref (qa 0), .int a5, .int a6, .int a7] : List Value).toArray s 0 0 (wA (ia14 qg cI g ++ ia40 qm cI m9 ++ ia24 qw cI w9 ++ ia60 qa cI a9))) (F0 mi 323 ls [.int t0_323]) := by
        intro v4_323 v5_323 v7_323 v8_323 v9_323 v11_323 v12_323 v13_323 v14_323 t0_323 a9_323 H locs hP hS ls hl hf hok
        refine lv_istore (lv' := [(15, .int t0_323), (0, .ref (qg 0)), (2, .ref (qw 0)), (3, .ref (qa 0)), (4, .int v4_323), (5, .int v5_323), (7, .int v7_323), (8, .int v8_323), (9, .int v9_323), (11, .int v11_323), (12, .int v12_323), (13, .int v13_323), (14, .int v14_323)]) hx hb dL_lists_323 hl (by decide) rfl (fun ls hl => ?_)
        refine lv_iload hx hb dL_lists_325 (lv_at hl 11 rfl) ?_
        refine lv_if_lt (tgt := 340) hx hb dL_lists_327 (by decide) (fun c15 => ?_) (fun c15 => ?_)
        · have hf := it_eq c15 hf
          have hok := it_ok c15 hok
          exact J_340 v4_323 v5_323 v7_323 v8_323 v9_323 v11_323 v12_323 v13_323 v14_323 t0_323 a9_323 _ _ hP hS _ (lv_sub hl [1, 2, 3, 4, 5, 6, 7, 8, 9, 10, 11, 12, 0] rfl) hf hok
        · have hf := ie_eq c15 hf
          have hok := ie_ok c15 hok
          refine lv_aload_n hx hb dL_lists_330 rfl (lv_at hl 2 rfl) ?_
          refine lv_iconst (v := 3) hx hb dL_lists_331 (by decide) ?_
          refine lv_iload hx hb dL_lists_332 (lv_at hl 11 rfl) ?_
          refine lv_imul hx hb dL_lists_334 ?_
          obtain ⟨h46, hok⟩ := hok
          refine va_iald (D := (dC, dI)) (tys := (tYS cI cB cO cL)) hx hb hK hP 2 0 rfl rfl h46 dL_lists_335 ?_
          refine lv_iconst (v := 1) hx hb dL_lists_336 (by decide) ?_
          refine lv_icmp_ne (tgt := 345) hx hb dL_lists_337 (by decide) (fun c44 => ?_) (fun c44 => ?_)
          · have hf := ie_eq c44 hf
            have hok := ie_ok c44 hok
            refine lv_iconst (v := 2) hx hb dL_lists_345 (by decide) ?_
            refine lv_aload_n hx hb dL_lists_346 rfl (lv_at hl 2 rfl) ?_
            refine lv_iconst (v := 3) hx hb dL_lists_347 (by decide) ?_
            refine lv_iload hx hb dL_lists_348 (lv_at hl 11 rfl) ?_
            refine lv_imul hx hb dL_lists_350 ?_
            refine lv_iconst (v := 1) hx hb dL_lists_351 (by decide) ?_
            refine lv_iadd hx hb dL_lists_352 ?_
            obtain ⟨h45, hok⟩ := hok
            refine va_iald (D := (dC, dI)) (tys := (tYS cI cB cO cL)) hx hb hK hP 2 0 rfl rfl h45 dL_lists_353 ?_
            refine lv_imul hx hb dL_lists_354 ?_
            refine lv_iload hx hb dL_lists_355 (lv_at hl 12 rfl) ?_
            refine lv_isub hx hb dL_lists_357 ?_
            exact J_358 v4_323 v5_323 v7_323 v8_323 v9_323 v11_323 v12_323 v13_323 t0_323 ((2 * (w9 (((3 * v13_323) + 1).toNatClampNeg))) - v14_323) a9_323 _ _ hP hS _ (lv_sub hl [1, 2, 3, 4, 5, 6, 7, 8, 9, 10, 11, 0] rfl) hf hok
          · have hf := it_eq c44 hf
            have hok := it_ok c44 hok
            exact J_340 v4_323 v5_323 v7_323 v8_323 v9_323 v11_323 v12_323 v13_323 v14_323 t0_323 a9_323 _ _ hP hS _ (lv_sub hl [1, 2, 3, 4, 5, 6, 7, 8, 9, 10, 11, 12, 0] rfl) hf hok
      have J_305 : ∀ (v4_305 : Int32) (v5_305 : Int32) (v7_305 : Int32) (v8_305 : Int32) (v9_305 : Int32) (v11_305 : Int32) (v12_305 : Int32) (v13_305 : Int32) (v14_305 : Int32) (a9_305 : (Nat → Int32)) (H : Heap) (locs : List Loc), va_P (dC, dI) vwCl (ia14 qg cI g ++ ia40 qm cI m9 ++ ia24 qw cI w9 ++ ia60 qa cI a9_305) H → va_S (wA (ia14 qg cI g ++ ia40 qm cI m9 ++ ia24 qw cI w9 ++ ia60 qa cI a9)) s.heap H locs → ∀ ls : Array Slot, lv_has ls 20 [(0, .ref (qg 0)), (2, .ref (qw 0)), (3, .ref (qa 0)), (4, .int v4_305), (5, .int v5_305), (7, .int v7_305), (8, .int v8_305), (9, .int v9_305), (11, .int v11_305), (12, .int v12_305), (13, .int v13_305), (14, .int v14_305)] → F = pL_lists_L305 g m9 w9 (pL_lists_L150 g m9 w9 n_150) v4_305 v5_305 v7_305 v8_305 v9_305 v11_305 v12_305 v13_305 v14_305 a9_305 → kL_lists_L305 g m9 w9 (kL_lists_L150 g m9 w9 n_150) v4_305 v5_305 v7_305 v8_305 v9_305 v11_305 v12_305 v13_305 v14_305 a9_305 → W p l e rL_lists s mi ([.ref (qg 0), .ref (qm 0), .ref (qw 0), .ref (qa 0), .int a5, .int a6, .int a7] : List Value).toArray below meth c H locs 0 0 (MQ below (gQi (dC, dI) (fun z9 : (Nat → Int32) => ia14 qg cI g ++ ia40 qm cI m9 ++ ia24 qw cI w9 ++ ia60 qa cI z9) (wA (ia14 qg cI g ++ ia40 qm cI m9 ++ ia24 qw cI w9 ++ ia60 qa cI a9)) (pL_lists g m9 w9 a9 a5 a6 a7)) ([.ref (qg 0), .ref (qm 0), .ref (qw 0), .ref (qa 0), .int a5, .int a6, .int a7] : List Value).toArray s 0 0 (wA (ia14 qg cI g ++ ia40 qm cI m9 ++ ia24 qw cI w9 ++ ia60 qa cI a9))) (F0 mi 305 ls []) := by
        intro v4_305 v5_305 v7_305 v8_305 v9_305 v11_305 v12_305 v13_305 v14_305 a9_305 H locs hP hS ls hl hf hok
        refine lv_iload hx hb dL_lists_305 (lv_at hl 4 rfl) ?_
        refine lv_goto (tgt := 323) hx hb dL_lists_307 (by decide) ?_
        exact J_323 v4_305 v5_305 v7_305 v8_305 v9_305 v11_305 v12_305 v13_305 v14_305 v5_305 a9_305 _ _ hP hS _ (lv_sub hl [0, 1, 2, 3, 4, 5, 6, 7, 8, 9, 10, 11] rfl) hf hok
      have J_289 : ∀ (v4_289 : Int32) (v5_289 : Int32) (v7_289 : Int32) (v8_289 : Int32) (v9_289 : Int32) (v11_289 : Int32) (v12_289 : Int32) (v13_289 : Int32) (t0_289 : Int32) (a9_289 : (Nat → Int32)) (H : Heap) (locs : List Loc), va_P (dC, dI) vwCl (ia14 qg cI g ++ ia40 qm cI m9 ++ ia24 qw cI w9 ++ ia60 qa cI a9_289) H → va_S (wA (ia14 qg cI g ++ ia40 qm cI m9 ++ ia24 qw cI w9 ++ ia60 qa cI a9)) s.heap H locs → ∀ ls : Array Slot, lv_has ls 20 [(0, .ref (qg 0)), (2, .ref (qw 0)), (3, .ref (qa 0)), (4, .int v4_289), (5, .int v5_289), (7, .int v7_289), (8, .int v8_289), (9, .int v9_289), (11, .int v11_289), (12, .int v12_289), (13, .int v13_289)] → F = pL_lists_L289 g m9 w9 (pL_lists_L150 g m9 w9 n_150) v4_289 v5_289 v7_289 v8_289 v9_289 v11_289 v12_289 v13_289 t0_289 a9_289 → kL_lists_L289 g m9 w9 (kL_lists_L150 g m9 w9 n_150) v4_289 v5_289 v7_289 v8_289 v9_289 v11_289 v12_289 v13_289 t0_289 a9_289 → W p l e rL_lists s mi ([.ref (qg 0), .ref (qm 0), .ref (qw 0), .ref (qa 0), .int a5, .int a6, .int a7] : List Value).toArray below meth c H locs 0 0 (MQ below (gQi (dC, dI) (fun z9 : (Nat → Int32) => ia14 qg cI g ++ ia40 qm cI m9 ++ ia24 qw cI w9 ++ ia60 qa cI z9) (wA (ia14 qg cI g ++ ia40 qm cI m9 ++ ia24 qw cI w9 ++ ia60 qa cI a9)) (pL_lists g m9 w9 a9 a5 a6 a7)) ([.ref (qg 0), .ref (qm 0), .ref (qw 0), .ref (qa 0), .int a5, .int a6, .int a7] : List Value).toArray s 0 0 (wA (ia14 qg cI g ++ ia40 qm cI m9 ++ ia24 qw cI w9 ++ ia60 qa cI a9))) (F0 mi 289 ls [.int t0_289]) := by
        intro v4_289 v5_289 v7_289 v8_289 v9_289 v11_289 v12_289 v13_289 t0_289 a9_289 H locs hP hS ls hl hf hok
        refine lv_istore (lv' := [(14, .int t0_289), (0, .ref (qg 0)), (2, .ref (qw 0)), (3, .ref (qa 0)), (4, .int v4_289), (5, .int v5_289), (7, .int v7_289), (8, .int v8_289), (9, .int v9_289), (11, .int v11_289), (12, .int v12_289), (13, .int v13_289)]) hx hb dL_lists_289 hl (by decide) rfl (fun ls hl => ?_)
        refine lv_iload hx hb dL_lists_291 (lv_at hl 10 rfl) ?_
        refine lv_if_lt (tgt := 305) hx hb dL_lists_293 (by decide) (fun c14 => ?_) (fun c14 => ?_)
        · have hf := it_eq c14 hf
          have hok := it_ok c14 hok
          exact J_305 v4_289 v5_289 v7_289 v8_289 v9_289 v11_289 v12_289 v13_289 t0_289 a9_289 _ _ hP hS _ (lv_sub hl [1, 2, 3, 4, 5, 6, 7, 8, 9, 10, 11, 0] rfl) hf hok
        · have hf := ie_eq c14 hf
          have hok := ie_ok c14 hok
          refine lv_aload_n hx hb dL_lists_296 rfl (lv_at hl 2 rfl) ?_
          refine lv_iconst (v := 3) hx hb dL_lists_297 (by decide) ?_
          refine lv_iload hx hb dL_lists_298 (lv_at hl 10 rfl) ?_
          refine lv_imul hx hb dL_lists_300 ?_
          obtain ⟨h49, hok⟩ := hok
          refine va_iald (D := (dC, dI)) (tys := (tYS cI cB cO cL)) hx hb hK hP 2 0 rfl rfl h49 dL_lists_301 ?_
          refine lv_if_ne (tgt := 310) hx hb dL_lists_302 (by decide) (fun c47 => ?_) (fun c47 => ?_)
          · have hf := ie_eq c47 hf
            have hok := ie_ok c47 hok
            refine lv_iconst (v := 2) hx hb dL_lists_310 (by decide) ?_
            refine lv_aload_n hx hb dL_lists_311 rfl (lv_at hl 2 rfl) ?_
            refine lv_iconst (v := 3) hx hb dL_lists_312 (by decide) ?_
            refine lv_iload hx hb dL_lists_313 (lv_at hl 10 rfl) ?_
            refine lv_imul hx hb dL_lists_315 ?_
            refine lv_iconst (v := 1) hx hb dL_lists_316 (by decide) ?_
            refine lv_iadd hx hb dL_lists_317 ?_
            obtain ⟨h48, hok⟩ := hok
            refine va_iald (D := (dC, dI)) (tys := (tYS cI cB cO cL)) hx hb hK hP 2 0 rfl rfl h48 dL_lists_318 ?_
            refine lv_imul hx hb dL_lists_319 ?_
            refine lv_iload hx hb dL_lists_320 (lv_at hl 5 rfl) ?_
            refine lv_isub hx hb dL_lists_322 ?_
            exact J_323 v4_289 v5_289 v7_289 v8_289 v9_289 v11_289 v12_289 v13_289 t0_289 ((2 * (w9 (((3 * v12_289) + 1).toNatClampNeg))) - v5_289) a9_289 _ _ hP hS _ (lv_sub hl [1, 2, 3, 4, 5, 6, 7, 8, 9, 10, 11, 0] rfl) hf hok
          · have hf := it_eq c47 hf
            have hok := it_ok c47 hok
            exact J_305 v4_289 v5_289 v7_289 v8_289 v9_289 v11_289 v12_289 v13_289 t0_289 a9_289 _ _ hP hS _ (lv_sub hl [1, 2, 3, 4, 5, 6, 7, 8, 9, 10, 11, 0] rfl) hf hok
      have J_271 : ∀ (v4_271 : Int32) (v5_271 : Int32) (v7_271 : Int32) (v8_271 : Int32) (v9_271 : Int32) (v11_271 : Int32) (v12_271 : Int32) (v13_271 : Int32) (a9_271 : (Nat → Int32)) (H : Heap) (locs : List Loc), va_P (dC, dI) vwCl (ia14 qg cI g ++ ia40 qm cI m9 ++ ia24 qw cI w9 ++ ia60 qa cI a9_271) H → va_S (wA (ia14 qg cI g ++ ia40 qm cI m9 ++ ia24 qw cI w9 ++ ia60 qa cI a9)) s.heap H locs → ∀ ls : Array Slot, lv_has ls 20 [(0, .ref (qg 0)), (2, .ref (qw 0)), (3, .ref (qa 0)), (4, .int v4_271), (5, .int v5_271), (7, .int v7_271), (8, .int v8_271), (9, .int v9_271), (11, .int v11_271), (12, .int v12_271), (13, .int v13_271)] → F = pL_lists_L271 g m9 w9 (pL_lists_L150 g m9 w9 n_150) v4_271 v5_271 v7_271 v8_271 v9_271 v11_271 v12_271 v13_271 a9_271 → kL_lists_L271 g m9 w9 (kL_lists_L150 g m9 w9 n_150) v4_271 v5_271 v7_271 v8_271 v9_271 v11_271 v12_271 v13_271 a9_271 → W p l e rL_lists s mi ([.ref (qg 0), .ref (qm 0), .ref (qw 0), .ref (qa 0), .int a5, .int a6, .int a7] : List Value).toArray below meth c H locs 0 0 (MQ below (gQi (dC, dI) (fun z9 : (Nat → Int32) => ia14 qg cI g ++ ia40 qm cI m9 ++ ia24 qw cI w9 ++ ia60 qa cI z9) (wA (ia14 qg cI g ++ ia40 qm cI m9 ++ ia24 qw cI w9 ++ ia60 qa cI a9)) (pL_lists g m9 w9 a9 a5 a6 a7)) ([.ref (qg 0), .ref (qm 0), .ref (qw 0), .ref (qa 0), .int a5, .int a6, .int a7] : List Value).toArray s 0 0 (wA (ia14 qg cI g ++ ia40 qm cI m9 ++ ia24 qw cI w9 ++ ia60 qa cI a9))) (F0 mi 271 ls []) := by
        intro v4_271 v5_271 v7_271 v8_271 v9_271 v11_271 v12_271 v13_271 a9_271 H locs hP hS ls hl hf hok
        refine lv_iload hx hb dL_lists_271 (lv_at hl 3 rfl) ?_
        refine lv_goto (tgt := 289) hx hb dL_lists_273 (by decide) ?_
        exact J_289 v4_271 v5_271 v7_271 v8_271 v9_271 v11_271 v12_271 v13_271 v4_271 a9_271 _ _ hP hS _ (lv_sub hl [0, 1, 2, 3, 4, 5, 6, 7, 8, 9, 10] rfl) hf hok
      have J_256 : ∀ (v4_256 : Int32) (v5_256 : Int32) (v7_256 : Int32) (v8_256 : Int32) (v9_256 : Int32) (v11_256 : Int32) (v12_256 : Int32) (v13_256 : Int32) (a9_256 : (Nat → Int32)) (H : Heap) (locs : List Loc), va_P (dC, dI) vwCl (ia14 qg cI g ++ ia40 qm cI m9 ++ ia24 qw cI w9 ++ ia60 qa cI a9_256) H → va_S (wA (ia14 qg cI g ++ ia40 qm cI m9 ++ ia24 qw cI w9 ++ ia60 qa cI a9)) s.heap H locs → ∀ ls : Array Slot, lv_has ls 20 [(0, .ref (qg 0)), (2, .ref (qw 0)), (3, .ref (qa 0)), (4, .int v4_256), (5, .int v5_256), (7, .int v7_256), (8, .int v8_256), (9, .int v9_256), (11, .int v11_256), (12, .int v12_256), (13, .int v13_256)] → F = pL_lists_L256 g m9 w9 (pL_lists_L150 g m9 w9 n_150) v4_256 v5_256 v7_256 v8_256 v9_256 v11_256 v12_256 v13_256 a9_256 → kL_lists_L256 g m9 w9 (kL_lists_L150 g m9 w9 n_150) v4_256 v5_256 v7_256 v8_256 v9_256 v11_256 v12_256 v13_256 a9_256 → W p l e rL_lists s mi ([.ref (qg 0), .ref (qm 0), .ref (qw 0), .ref (qa 0), .int a5, .int a6, .int a7] : List Value).toArray below meth c H locs 0 0 (MQ below (gQi (dC, dI) (fun z9 : (Nat → Int32) => ia14 qg cI g ++ ia40 qm cI m9 ++ ia24 qw cI w9 ++ ia60 qa cI z9) (wA (ia14 qg cI g ++ ia40 qm cI m9 ++ ia24 qw cI w9 ++ ia60 qa cI a9)) (pL_lists g m9 w9 a9 a5 a6 a7)) ([.ref (qg 0), .ref (qm 0), .ref (qw 0), .ref (qa 0), .int a5, .int a6, .int a7] : List Value).toArray s 0 0 (wA (ia14 qg cI g ++ ia40 qm cI m9 ++ ia24 qw cI w9 ++ ia60 qa cI a9))) (F0 mi 256 ls []) := by
        intro v4_256 v5_256 v7_256 v8_256 v9_256 v11_256 v12_256 v13_256 a9_256 H locs hP hS ls hl hf hok
        refine lv_iload hx hb dL_lists_256 (lv_at hl 9 rfl) ?_
        refine lv_if_lt (tgt := 271) hx hb dL_lists_258 (by decide) (fun c13 => ?_) (fun c13 => ?_)
        · have hf := it_eq c13 hf
          have hok := it_ok c13 hok
          exact J_271 v4_256 v5_256 v7_256 v8_256 v9_256 v11_256 v12_256 v13_256 a9_256 _ _ hP hS _ (lv_sub hl [0, 1, 2, 3, 4, 5, 6, 7, 8, 9, 10] rfl) hf hok
        · have hf := ie_eq c13 hf
          have hok := ie_ok c13 hok
          refine lv_aload_n hx hb dL_lists_261 rfl (lv_at hl 1 rfl) ?_
          refine lv_iconst (v := 3) hx hb dL_lists_262 (by decide) ?_
          refine lv_iload hx hb dL_lists_263 (lv_at hl 9 rfl) ?_
          refine lv_imul hx hb dL_lists_265 ?_
          obtain ⟨h52, hok⟩ := hok
          refine va_iald (D := (dC, dI)) (tys := (tYS cI cB cO cL)) hx hb hK hP 2 0 rfl rfl h52 dL_lists_266 ?_
          refine lv_iconst (v := 1) hx hb dL_lists_267 (by decide) ?_
          refine lv_icmp_ne (tgt := 276) hx hb dL_lists_268 (by decide) (fun c50 => ?_) (fun c50 => ?_)
          · have hf := ie_eq c50 hf
            have hok := ie_ok c50 hok
            refine lv_iconst (v := 2) hx hb dL_lists_276 (by decide) ?_
            refine lv_aload_n hx hb dL_lists_277 rfl (lv_at hl 1 rfl) ?_
            refine lv_iconst (v := 3) hx hb dL_lists_278 (by decide) ?_
            refine lv_iload hx hb dL_lists_279 (lv_at hl 9 rfl) ?_
            refine lv_imul hx hb dL_lists_281 ?_
            refine lv_iconst (v := 1) hx hb dL_lists_282 (by decide) ?_
            refine lv_iadd hx hb dL_lists_283 ?_
            obtain ⟨h51, hok⟩ := hok
            refine va_iald (D := (dC, dI)) (tys := (tYS cI cB cO cL)) hx hb hK hP 2 0 rfl rfl h51 dL_lists_284 ?_
            refine lv_imul hx hb dL_lists_285 ?_
            refine lv_iload hx hb dL_lists_286 (lv_at hl 3 rfl) ?_
            refine lv_isub hx hb dL_lists_288 ?_
            exact J_289 v4_256 v5_256 v7_256 v8_256 v9_256 v11_256 v12_256 v13_256 ((2 * (w9 (((3 * v12_256) + 1).toNatClampNeg))) - v4_256) a9_256 _ _ hP hS _ (lv_sub hl [0, 1, 2, 3, 4, 5, 6, 7, 8, 9, 10] rfl) hf hok
          · have hf := it_eq c50 hf
            have hok := it_ok c50 hok
            exact J_271 v4_256 v5_256 v7_256 v8_256 v9_256 v11_256 v12_256 v13_256 a9_256 _ _ hP hS _ (lv_sub hl [0, 1, 2, 3, 4, 5, 6, 7, 8, 9, 10] rfl) hf hok
      have J_242 : ∀ (v4_242 : Int32) (v5_242 : Int32) (v7_242 : Int32) (v8_242 : Int32) (v9_242 : Int32) (v11_242 : Int32) (v12_242 : Int32) (t0_242 : Int32) (a9_242 : (Nat → Int32)) (H : Heap) (locs : List Loc), va_P (dC, dI) vwCl (ia14 qg cI g ++ ia40 qm cI m9 ++ ia24 qw cI w9 ++ ia60 qa cI a9_242) H → va_S (wA (ia14 qg cI g ++ ia40 qm cI m9 ++ ia24 qw cI w9 ++ ia60 qa cI a9)) s.heap H locs → ∀ ls : Array Slot, lv_has ls 20 [(0, .ref (qg 0)), (2, .ref (qw 0)), (3, .ref (qa 0)), (4, .int v4_242), (5, .int v5_242), (7, .int v7_242), (8, .int v8_242), (9, .int v9_242), (11, .int v11_242), (12, .int v12_242)] → F = pL_lists_L242 g m9 w9 (pL_lists_L150 g m9 w9 n_150) v4_242 v5_242 v7_242 v8_242 v9_242 v11_242 v12_242 t0_242 a9_242 → kL_lists_L242 g m9 w9 (kL_lists_L150 g m9 w9 n_150) v4_242 v5_242 v7_242 v8_242 v9_242 v11_242 v12_242 t0_242 a9_242 → W p l e rL_lists s mi ([.ref (qg 0), .ref (qm 0), .ref (qw 0), .ref (qa 0), .int a5, .int a6, .int a7] : List Value).toArray below meth c H locs 0 0 (MQ below (gQi (dC, dI) (fun z9 : (Nat → Int32) => ia14 qg cI g ++ ia40 qm cI m9 ++ ia24 qw cI w9 ++ ia60 qa cI z9) (wA (ia14 qg cI g ++ ia40 qm cI m9 ++ ia24 qw cI w9 ++ ia60 qa cI a9)) (pL_lists g m9 w9 a9 a5 a6 a7)) ([.ref (qg 0), .ref (qm 0), .ref (qw 0), .ref (qa 0), .int a5, .int a6, .int a7] : List Value).toArray s 0 0 (wA (ia14 qg cI g ++ ia40 qm cI m9 ++ ia24 qw cI w9 ++ ia60 qa cI a9))) (F0 mi 242 ls [.int t0_242]) := by
        intro v4_242 v5_242 v7_242 v8_242 v9_242 v11_242 v12_242 t0_242 a9_242 H locs hP hS ls hl hf hok
        refine lv_istore (lv' := [(13, .int t0_242), (0, .ref (qg 0)), (2, .ref (qw 0)), (3, .ref (qa 0)), (4, .int v4_242), (5, .int v5_242), (7, .int v7_242), (8, .int v8_242), (9, .int v9_242), (11, .int v11_242), (12, .int v12_242)]) hx hb dL_lists_242 hl (by decide) rfl (fun ls hl => ?_)
        refine lv_iload hx hb dL_lists_244 (lv_at hl 10 rfl) ?_
        refine lv_if_lt (tgt := 256) hx hb dL_lists_246 (by decide) (fun c12 => ?_) (fun c12 => ?_)
        · have hf := it_eq c12 hf
          have hok := it_ok c12 hok
          exact J_256 v4_242 v5_242 v7_242 v8_242 v9_242 v11_242 v12_242 t0_242 a9_242 _ _ hP hS _ (lv_sub hl [1, 2, 3, 4, 5, 6, 7, 8, 9, 10, 0] rfl) hf hok
        · have hf := ie_eq c12 hf
          have hok := ie_ok c12 hok
          refine lv_iload hx hb dL_lists_249 (lv_at hl 10 rfl) ?_
          refine lv_iload hx hb dL_lists_251 (lv_at hl 0 rfl) ?_
          refine lv_icmp_eq (tgt := 578) hx hb dL_lists_253 (by decide) (fun c53 => ?_) (fun c53 => ?_)
          · have hf := it_eq c53 hf
            have hok := it_ok c53 hok
            exact J_578 v4_242 v5_242 v7_242 v8_242 v9_242 v11_242 a9_242 _ _ hP hS _ (lv_sub hl [1, 2, 3, 4, 5, 6, 7, 8, 9] rfl) hf hok
          · have hf := ie_eq c53 hf
            have hok := ie_ok c53 hok
            exact J_256 v4_242 v5_242 v7_242 v8_242 v9_242 v11_242 v12_242 t0_242 a9_242 _ _ hP hS _ (lv_sub hl [1, 2, 3, 4, 5, 6, 7, 8, 9, 10, 0] rfl) hf hok
      have J_216 : ∀ (v4_216 : Int32) (v5_216 : Int32) (v7_216 : Int32) (v8_216 : Int32) (v9_216 : Int32) (v11_216 : Int32) (t0_216 : Int32) (a9_216 : (Nat → Int32)) (H : Heap) (locs : List Loc), va_P (dC, dI) vwCl (ia14 qg cI g ++ ia40 qm cI m9 ++ ia24 qw cI w9 ++ ia60 qa cI a9_216) H → va_S (wA (ia14 qg cI g ++ ia40 qm cI m9 ++ ia24 qw cI w9 ++ ia60 qa cI a9)) s.heap H locs → ∀ ls : Array Slot, lv_has ls 20 [(0, .ref (qg 0)), (2, .ref (qw 0)), (3, .ref (qa 0)), (4, .int v4_216), (5, .int v5_216), (7, .int v7_216), (8, .int v8_216), (9, .int v9_216), (11, .int v11_216)] → F = pL_lists_L216 g m9 w9 (pL_lists_L150 g m9 w9 n_150) v4_216 v5_216 v7_216 v8_216 v9_216 v11_216 t0_216 a9_216 → kL_lists_L216 g m9 w9 (kL_lists_L150 g m9 w9 n_150) v4_216 v5_216 v7_216 v8_216 v9_216 v11_216 t0_216 a9_216 → W p l e rL_lists s mi ([.ref (qg 0), .ref (qm 0), .ref (qw 0), .ref (qa 0), .int a5, .int a6, .int a7] : List Value).toArray below meth c H locs 0 0 (MQ below (gQi (dC, dI) (fun z9 : (Nat → Int32) => ia14 qg cI g ++ ia40 qm cI m9 ++ ia24 qw cI w9 ++ ia60 qa cI z9) (wA (ia14 qg cI g ++ ia40 qm cI m9 ++ ia24 qw cI w9 ++ ia60 qa cI a9)) (pL_lists g m9 w9 a9 a5 a6 a7)) ([.ref (qg 0), .ref (qm 0), .ref (qw 0), .ref (qa 0), .int a5, .int a6, .int a7] : List Value).toArray s 0 0 (wA (ia14 qg cI g ++ ia40 qm cI m9 ++ ia24 qw cI w9 ++ ia60 qa cI a9))) (F0 mi 216 ls [.int t0_216]) := by
        intro v4_216 v5_216 v7_216 v8_216 v9_216 v11_216 t0_216 a9_216 H locs hP hS ls hl hf hok
        refine lv_istore (lv' := [(12, .int t0_216), (0, .ref (qg 0)), (2, .ref (qw 0)), (3, .ref (qa 0)), (4, .int v4_216), (5, .int v5_216), (7, .int v7_216), (8, .int v8_216), (9, .int v9_216), (11, .int v11_216)]) hx hb dL_lists_216 hl (by decide) rfl (fun ls hl => ?_)
        refine lv_iload hx hb dL_lists_218 (lv_at hl 9 rfl) ?_
        refine lv_aload_n hx hb dL_lists_220 rfl (lv_at hl 1 rfl) ?_
        refine lv_iconst (v := 3) hx hb dL_lists_221 (by decide) ?_
        refine g_ialdK (D := (dC, dI)) (tys := (tYS cI cB cO cL)) (k := 3) hx hb hK hP 0 0 rfl rfl (by decide) (by decide) (by decide) dL_lists_222 ?_
        refine lv_icmp_gt (tgt := 230) hx hb dL_lists_223 (by decide) (fun c10 => ?_) (fun c10 => ?_)
        · have hf := it_eq c10 hf
          have hok := it_ok c10 hok
          refine lv_iload hx hb dL_lists_230 (lv_at hl 9 rfl) ?_
          refine lv_iconst (v := 1) hx hb dL_lists_232 (by decide) ?_
          refine lv_isub hx hb dL_lists_233 ?_
          refine lv_aload_n hx hb dL_lists_234 rfl (lv_at hl 1 rfl) ?_
          refine lv_iconst (v := 3) hx hb dL_lists_235 (by decide) ?_
          refine g_ialdK (D := (dC, dI)) (tys := (tYS cI cB cO cL)) (k := 3) hx hb hK hP 0 0 rfl rfl (by decide) (by decide) (by decide) dL_lists_236 ?_
          refine lv_isub hx hb dL_lists_237 ?_
          refine lv_aload_n hx hb dL_lists_238 rfl (lv_at hl 1 rfl) ?_
          refine lv_iconst (v := 3) hx hb dL_lists_239 (by decide) ?_
          refine g_ialdK (D := (dC, dI)) (tys := (tYS cI cB cO cL)) (k := 3) hx hb hK hP 0 0 rfl rfl (by decide) (by decide) (by decide) dL_lists_240 ?_
          obtain ⟨h11, hok⟩ := hok
          refine lv_irem hx hb dL_lists_241 h11 ?_
          exact J_242 v4_216 v5_216 v7_216 v8_216 v9_216 v11_216 t0_216 (((v11_216 - 1) - (g 3)) - ((v11_216 - 1) - (g 3)) / (g 3) * (g 3)) a9_216 _ _ hP hS _ (lv_sub hl [1, 2, 3, 4, 5, 6, 7, 8, 9, 0] rfl) hf hok
        · have hf := ie_eq c10 hf
          have hok := ie_ok c10 hok
          refine lv_iconst (v := (-1)) hx hb dL_lists_226 (by decide) ?_
          refine lv_goto (tgt := 242) hx hb dL_lists_227 (by decide) ?_
          exact J_242 v4_216 v5_216 v7_216 v8_216 v9_216 v11_216 t0_216 (-1) a9_216 _ _ hP hS _ (lv_sub hl [1, 2, 3, 4, 5, 6, 7, 8, 9, 0] rfl) hf hok
      have J_176 : ∀ (v4_176 : Int32) (v5_176 : Int32) (v7_176 : Int32) (v8_176 : Int32) (v9_176 : Int32) (v11_176 : Int32) (t0_176 : Int32) (t1_176 : Int32) (t2_176 : Int32) (a9_176 : (Nat → Int32)) (H : Heap) (locs : List Loc), va_P (dC, dI) vwCl (ia14 qg cI g ++ ia40 qm cI m9 ++ ia24 qw cI w9 ++ ia60 qa cI a9_176) H → va_S (wA (ia14 qg cI g ++ ia40 qm cI m9 ++ ia24 qw cI w9 ++ ia60 qa cI a9)) s.heap H locs → ∀ ls : Array Slot, lv_has ls 20 [(0, .ref (qg 0)), (2, .ref (qw 0)), (3, .ref (qa 0)), (4, .int v4_176), (5, .int v5_176), (7, .int v7_176), (8, .int v8_176), (9, .int v9_176), (11, .int v11_176)] → F = pL_lists_L176 g m9 w9 (pL_lists_L150 g m9 w9 n_150) v4_176 v5_176 v7_176 v8_176 v9_176 v11_176 t0_176 t1_176 t2_176 a9_176 → kL_lists_L176 g m9 w9 (kL_lists_L150 g m9 w9 n_150) v4_176 v5_176 v7_176 v8_176 v9_176 v11_176 t0_176 t1_176 t2_176 a9_176 → W p l e rL_lists s mi ([.ref (qg 0), .ref (qm 0), .ref (qw 0), .ref (qa 0), .int a5, .int a6, .int a7] : List Value).toArray below meth c H locs 0 0 (MQ below (gQi (dC, dI) (fun z9 : (Nat → Int32) => ia14 qg cI g ++ ia40 qm cI m9 ++ ia24 qw cI w9 ++ ia60 qa cI z9) (wA (ia14 qg cI g ++ ia40 qm cI m9 ++ ia24 qw cI w9 ++ ia60 qa cI a9)) (pL_lists g m9 w9 a9 a5 a6 a7)) ([.ref (qg 0), .ref (qm 0), .ref (qw 0), .ref (qa 0), .int a5, .int a6, .int a7] : List Value).toArray s 0 0 (wA (ia14 qg cI g ++ ia40 qm cI m9 ++ ia24 qw cI w9 ++ ia60 qa cI a9))) (F0 mi 176 ls [.int t2_176, .int t1_176, .int t0_176]) := by
        intro v4_176 v5_176 v7_176 v8_176 v9_176 v11_176 t0_176 t1_176 t2_176 a9_176 H locs hP hS ls hl hf hok
        refine lv_iadd hx hb dL_lists_176 ?_
        refine lv_icmp_ge (tgt := 584) hx hb dL_lists_177 (by decide) (fun c6 => ?_) (fun c6 => ?_)
        · have hf := it_eq c6 hf
          refine lv_iload hx hb dL_lists_584 (lv_at hl 7 rfl) ?_
          exact e_mi C0 (hf.symm.trans hF) hP hS dL_lists_586
        · have hf := ie_eq c6 hf
          have hok := ie_ok c6 hok
          refine lv_iload hx hb dL_lists_180 (lv_at hl 8 rfl) ?_
          refine lv_if_ne (tgt := 189) hx hb dL_lists_182 (by decide) (fun c7 => ?_) (fun c7 => ?_)
          · have hf := ie_eq c7 hf
            have hok := ie_ok c7 hok
            refine lv_iload hx hb dL_lists_189 (lv_at hl 8 rfl) ?_
            refine lv_aload_n hx hb dL_lists_191 rfl (lv_at hl 0 rfl) ?_
            refine lv_iconst (v := 3) hx hb dL_lists_192 (by decide) ?_
            refine g_ialdK (D := (dC, dI)) (tys := (tYS cI cB cO cL)) (k := 3) hx hb hK hP 0 0 rfl rfl (by decide) (by decide) (by decide) dL_lists_193 ?_
            refine lv_icmp_gt (tgt := 204) hx hb dL_lists_194 (by decide) (fun c8 => ?_) (fun c8 => ?_)
            · have hf := it_eq c8 hf
              have hok := it_ok c8 hok
              refine lv_iload hx hb dL_lists_204 (lv_at hl 8 rfl) ?_
              refine lv_iconst (v := 1) hx hb dL_lists_206 (by decide) ?_
              refine lv_isub hx hb dL_lists_207 ?_
              refine lv_aload_n hx hb dL_lists_208 rfl (lv_at hl 0 rfl) ?_
              refine lv_iconst (v := 3) hx hb dL_lists_209 (by decide) ?_
              refine g_ialdK (D := (dC, dI)) (tys := (tYS cI cB cO cL)) (k := 3) hx hb hK hP 0 0 rfl rfl (by decide) (by decide) (by decide) dL_lists_210 ?_
              refine lv_isub hx hb dL_lists_211 ?_
              refine lv_aload_n hx hb dL_lists_212 rfl (lv_at hl 0 rfl) ?_
              refine lv_iconst (v := 3) hx hb dL_lists_213 (by decide) ?_
              refine g_ialdK (D := (dC, dI)) (tys := (tYS cI cB cO cL)) (k := 3) hx hb hK hP 0 0 rfl rfl (by decide) (by decide) (by decide) dL_lists_214 ?_
              obtain ⟨h9, hok⟩ := hok
              refine lv_idiv hx hb dL_lists_215 h9 ?_
              exact J_216 v4_176 v5_176 v7_176 v8_176 v9_176 v11_176 (((v11_176 - 1) - (g 3)) / (g 3)) a9_176 _ _ hP hS _ (lv_sub hl [0, 1, 2, 3, 4, 5, 6, 7, 8] rfl) hf hok
            · have hf := ie_eq c8 hf
              have hok := ie_ok c8 hok
              refine lv_iload hx hb dL_lists_197 (lv_at hl 8 rfl) ?_
              refine lv_iconst (v := 1) hx hb dL_lists_199 (by decide) ?_
              refine lv_isub hx hb dL_lists_200 ?_
              refine lv_goto (tgt := 216) hx hb dL_lists_201 (by decide) ?_
              exact J_216 v4_176 v5_176 v7_176 v8_176 v9_176 v11_176 (v11_176 - 1) a9_176 _ _ hP hS _ (lv_sub hl [0, 1, 2, 3, 4, 5, 6, 7, 8] rfl) hf hok
          · have hf := it_eq c7 hf
            have hok := it_ok c7 hok
            refine lv_iconst (v := (-1)) hx hb dL_lists_185 (by decide) ?_
            refine lv_goto (tgt := 216) hx hb dL_lists_186 (by decide) ?_
            exact J_216 v4_176 v5_176 v7_176 v8_176 v9_176 v11_176 (-1) a9_176 _ _ hP hS _ (lv_sub hl [0, 1, 2, 3, 4, 5, 6, 7, 8] rfl) hf hok
      intro v4_150 v5_150 v7_150 v8_150 v9_150 v11_150 a9_150 H locs hP hS ls hl hf hok
      have hf : F = bL_lists_L150 g m9 w9 (pL_lists_L150 g m9 w9 n_150) v4_150 v5_150 v7_150 v8_150 v9_150 v11_150 a9_150 := hf
      have hok : kbL_lists_L150 g m9 w9 (kL_lists_L150 g m9 w9 n_150) v4_150 v5_150 v7_150 v8_150 v9_150 v11_150 a9_150 := hok
      refine lv_iload hx hb dL_lists_150 (lv_at hl 8 rfl) ?_
      refine lv_iconst (v := 1) hx hb dL_lists_152 (by decide) ?_
      refine lv_aload_n hx hb dL_lists_153 rfl (lv_at hl 0 rfl) ?_
      refine lv_iconst (v := 3) hx hb dL_lists_154 (by decide) ?_
      refine g_ialdK (D := (dC, dI)) (tys := (tYS cI cB cO cL)) (k := 3) hx hb hK hP 0 0 rfl rfl (by decide) (by decide) (by decide) dL_lists_155 ?_
      refine lv_iadd hx hb dL_lists_156 ?_
      refine lv_aload_n hx hb dL_lists_157 rfl (lv_at hl 0 rfl) ?_
      refine lv_bipush (v := 8) hx hb dL_lists_158 (by decide) ?_
      refine g_ialdK (D := (dC, dI)) (tys := (tYS cI cB cO cL)) (k := 8) hx hb hK hP 0 0 rfl rfl (by decide) (by decide) (by decide) dL_lists_160 ?_
      refine lv_iconst (v := 2) hx hb dL_lists_161 (by decide) ?_
      refine lv_icmp_ne (tgt := 175) hx hb dL_lists_162 (by decide) (fun c5 => ?_) (fun c5 => ?_)
      · have hf := ie_eq c5 hf
        have hok := ie_ok c5 hok
        refine lv_iconst (v := 0) hx hb dL_lists_175 (by decide) ?_
        exact J_176 v4_150 v5_150 v7_150 v8_150 v9_150 v11_150 v11_150 (1 + (g 3)) 0 a9_150 _ _ hP hS _ (lv_sub hl [0, 1, 2, 3, 4, 5, 6, 7, 8] rfl) hf hok
      · have hf := it_eq c5 hf
        have hok := it_ok c5 hok
        refine lv_aload_n hx hb dL_lists_165 rfl (lv_at hl 0 rfl) ?_
        refine lv_iconst (v := 3) hx hb dL_lists_166 (by decide) ?_
        refine g_ialdK (D := (dC, dI)) (tys := (tYS cI cB cO cL)) (k := 3) hx hb hK hP 0 0 rfl rfl (by decide) (by decide) (by decide) dL_lists_167 ?_
        refine lv_aload_n hx hb dL_lists_168 rfl (lv_at hl 0 rfl) ?_
        refine lv_iconst (v := 3) hx hb dL_lists_169 (by decide) ?_
        refine g_ialdK (D := (dC, dI)) (tys := (tYS cI cB cO cL)) (k := 3) hx hb hK hP 0 0 rfl rfl (by decide) (by decide) (by decide) dL_lists_170 ?_
        refine lv_imul hx hb dL_lists_171 ?_
        refine lv_goto (tgt := 176) hx hb dL_lists_172 (by decide) ?_
        exact J_176 v4_150 v5_150 v7_150 v8_150 v9_150 v11_150 v11_150 (1 + (g 3)) ((g 3) * (g 3)) a9_150 _ _ hP hS _ (lv_sub hl [0, 1, 2, 3, 4, 5, 6, 7, 8] rfl) hf hok
  have J_148 : ∀ (v4_148 : Int32) (v5_148 : Int32) (v7_148 : Int32) (v8_148 : Int32) (v9_148 : Bool) (t0_148 : Bool) (a9_148 : (Nat → Int32)) (H : Heap) (locs : List Loc), va_P (dC, dI) vwCl (ia14 qg cI g ++ ia40 qm cI m9 ++ ia24 qw cI w9 ++ ia60 qa cI a9_148) H → va_S (wA (ia14 qg cI g ++ ia40 qm cI m9 ++ ia24 qw cI w9 ++ ia60 qa cI a9)) s.heap H locs → ∀ ls : Array Slot, lv_has ls 20 [(0, .ref (qg 0)), (2, .ref (qw 0)), (3, .ref (qa 0)), (4, .int v4_148), (5, .int v5_148), (7, .int v7_148), (8, .int v8_148), (9, .int (bz v9_148))] → F = pL_lists_L148 g m9 w9 v4_148 v5_148 v7_148 v8_148 v9_148 t0_148 a9_148 → kL_lists_L148 g m9 w9 v4_148 v5_148 v7_148 v8_148 v9_148 t0_148 a9_148 → W p l e rL_lists s mi ([.ref (qg 0), .ref (qm 0), .ref (qw 0), .ref (qa 0), .int a5, .int a6, .int a7] : List Value).toArray below meth c H locs 0 0 (MQ below (gQi (dC, dI) (fun z9 : (Nat → Int32) => ia14 qg cI g ++ ia40 qm cI m9 ++ ia24 qw cI w9 ++ ia60 qa cI z9) (wA (ia14 qg cI g ++ ia40 qm cI m9 ++ ia24 qw cI w9 ++ ia60 qa cI a9)) (pL_lists g m9 w9 a9 a5 a6 a7)) ([.ref (qg 0), .ref (qm 0), .ref (qw 0), .ref (qa 0), .int a5, .int a6, .int a7] : List Value).toArray s 0 0 (wA (ia14 qg cI g ++ ia40 qm cI m9 ++ ia24 qw cI w9 ++ ia60 qa cI a9))) (F0 mi 148 ls [.int (bz t0_148)]) := by
    intro v4_148 v5_148 v7_148 v8_148 v9_148 t0_148 a9_148 H locs hP hS ls hl hf hok
    refine lv_istore (lv' := [(11, .int (bz t0_148)), (0, .ref (qg 0)), (2, .ref (qw 0)), (3, .ref (qa 0)), (4, .int v4_148), (5, .int v5_148), (7, .int v7_148), (8, .int v8_148), (9, .int (bz v9_148))]) hx hb dL_lists_148 hl (by decide) rfl (fun ls hl => ?_)
    exact J_150 fu v4_148 v5_148 v7_148 v8_148 (bz v9_148) (bz t0_148) a9_148 _ _ hP hS _ (lv_sub hl [1, 2, 3, 4, 5, 6, 7, 8, 0] rfl) hf hok
  have J_29 : ∀ (n_29 : Nat) (v4_29 : Int32) (v5_29 : Int32) (v7_29 : Int32) (v8_29 : Int32) (v9_29 : Bool) (v10_29 : Bool) (v11_29 : Int32) (a9_29 : (Nat → Int32)) (H : Heap) (locs : List Loc), va_P (dC, dI) vwCl (ia14 qg cI g ++ ia40 qm cI m9 ++ ia24 qw cI w9 ++ ia60 qa cI a9_29) H → va_S (wA (ia14 qg cI g ++ ia40 qm cI m9 ++ ia24 qw cI w9 ++ ia60 qa cI a9)) s.heap H locs → ∀ ls : Array Slot, lv_has ls 20 [(0, .ref (qg 0)), (2, .ref (qw 0)), (3, .ref (qa 0)), (4, .int v4_29), (5, .int v5_29), (7, .int v7_29), (8, .int v8_29), (9, .int (bz v9_29)), (10, .int (bz v10_29)), (11, .int v11_29)] → F = pL_lists_L29 g m9 w9 n_29 v4_29 v5_29 v7_29 v8_29 v9_29 v10_29 v11_29 a9_29 → kL_lists_L29 g m9 w9 n_29 v4_29 v5_29 v7_29 v8_29 v9_29 v10_29 v11_29 a9_29 → W p l e rL_lists s mi ([.ref (qg 0), .ref (qm 0), .ref (qw 0), .ref (qa 0), .int a5, .int a6, .int a7] : List Value).toArray below meth c H locs 0 0 (MQ below (gQi (dC, dI) (fun z9 : (Nat → Int32) => ia14 qg cI g ++ ia40 qm cI m9 ++ ia24 qw cI w9 ++ ia60 qa cI z9) (wA (ia14 qg cI g ++ ia40 qm cI m9 ++ ia24 qw cI w9 ++ ia60 qa cI a9)) (pL_lists g m9 w9 a9 a5 a6 a7)) ([.ref (qg 0), .ref (qm 0), .ref (qw 0), .ref (qa 0), .int a5, .int a6, .int a7] : List Value).toArray s 0 0 (wA (ia14 qg cI g ++ ia40 qm cI m9 ++ ia24 qw cI w9 ++ ia60 qa cI a9))) (F0 mi 29 ls []) := by
    intro n_29
    induction n_29 with
    | zero =>
      intro v4_29 v5_29 v7_29 v8_29 v9_29 v10_29 v11_29 a9_29 H locs hP hS ls hl hf hok
      exact absurd hok (fun h => h)
    | succ n_29 ih_29 =>
      have J_130 : ∀ (v4_130 : Int32) (v5_130 : Int32) (v7_130 : Int32) (v8_130 : Int32) (v9_130 : Bool) (v11_130 : Int32) (t0_130 : Bool) (a9_130 : (Nat → Int32)) (H : Heap) (locs : List Loc), va_P (dC, dI) vwCl (ia14 qg cI g ++ ia40 qm cI m9 ++ ia24 qw cI w9 ++ ia60 qa cI a9_130) H → va_S (wA (ia14 qg cI g ++ ia40 qm cI m9 ++ ia24 qw cI w9 ++ ia60 qa cI a9)) s.heap H locs → ∀ ls : Array Slot, lv_has ls 20 [(0, .ref (qg 0)), (2, .ref (qw 0)), (3, .ref (qa 0)), (4, .int v4_130), (5, .int v5_130), (7, .int v7_130), (8, .int v8_130), (9, .int (bz v9_130)), (11, .int v11_130)] → F = pL_lists_L130 g m9 w9 (pL_lists_L29 g m9 w9 n_29) v4_130 v5_130 v7_130 v8_130 v9_130 v11_130 t0_130 a9_130 → kL_lists_L130 g m9 w9 (kL_lists_L29 g m9 w9 n_29) v4_130 v5_130 v7_130 v8_130 v9_130 v11_130 t0_130 a9_130 → W p l e rL_lists s mi ([.ref (qg 0), .ref (qm 0), .ref (qw 0), .ref (qa 0), .int a5, .int a6, .int a7] : List Value).toArray below meth c H locs 0 0 (MQ below (gQi (dC, dI) (fun z9 : (Nat → Int32) => ia14 qg cI g ++ ia40 qm cI m9 ++ ia24 qw cI w9 ++ ia60 qa cI z9) (wA (ia14 qg cI g ++ ia40 qm cI m9 ++ ia24 qw cI w9 ++ ia60 qa cI a9)) (pL_lists g m9 w9 a9 a5 a6 a7)) ([.ref (qg 0), .ref (qm 0), .ref (qw 0), .ref (qa 0), .int a5, .int a6, .int a7] : List Value).toArray s 0 0 (wA (ia14 qg cI g ++ ia40 qm cI m9 ++ ia24 qw cI w9 ++ ia60 qa cI a9))) (F0 mi 130 ls [.int (bz t0_130)]) := by
        intro v4_130 v5_130 v7_130 v8_130 v9_130 v11_130 t0_130 a9_130 H locs hP hS ls hl hf hok
        refine lv_istore (lv' := [(10, .int (bz t0_130)), (0, .ref (qg 0)), (2, .ref (qw 0)), (3, .ref (qa 0)), (4, .int v4_130), (5, .int v5_130), (7, .int v7_130), (8, .int v8_130), (9, .int (bz v9_130)), (11, .int v11_130)]) hx hb dL_lists_130 hl (by decide) rfl (fun ls hl => ?_)
        obtain ⟨x56, ex56⟩ : ∃ y : Int32, y = v11_130 + 1 := ⟨_, rfl⟩
        refine lv_iinc (v := x56) (lv' := [(11, .int x56), (10, .int (bz t0_130)), (0, .ref (qg 0)), (2, .ref (qw 0)), (3, .ref (qa 0)), (4, .int v4_130), (5, .int v5_130), (7, .int v7_130), (8, .int v8_130), (9, .int (bz v9_130))]) hx hb dL_lists_132 hl (k := 9) rfl (by rw [ex56]; rfl) (by decide) rfl (fun ls hl => ?_)
        have hf := lt_eq ex56 hf
        have hok := lt_ok ex56 hok
        refine lv_goto (tgt := 29) hx hb dL_lists_135 (by decide) ?_
        exact ih_29 v4_130 v5_130 v7_130 v8_130 v9_130 t0_130 x56 a9_130 _ _ hP hS _ (lv_sub hl [2, 3, 4, 5, 6, 7, 8, 9, 1, 0] rfl) hf hok
      have J_125 : ∀ (v4_125 : Int32) (v5_125 : Int32) (v7_125 : Int32) (v8_125 : Int32) (v9_125 : Bool) (v11_125 : Int32) (a9_125 : (Nat → Int32)) (H : Heap) (locs : List Loc), va_P (dC, dI) vwCl (ia14 qg cI g ++ ia40 qm cI m9 ++ ia24 qw cI w9 ++ ia60 qa cI a9_125) H → va_S (wA (ia14 qg cI g ++ ia40 qm cI m9 ++ ia24 qw cI w9 ++ ia60 qa cI a9)) s.heap H locs → ∀ ls : Array Slot, lv_has ls 20 [(0, .ref (qg 0)), (2, .ref (qw 0)), (3, .ref (qa 0)), (4, .int v4_125), (5, .int v5_125), (7, .int v7_125), (8, .int v8_125), (9, .int (bz v9_125)), (11, .int v11_125)] → F = pL_lists_L125 g m9 w9 (pL_lists_L29 g m9 w9 n_29) v4_125 v5_125 v7_125 v8_125 v9_125 v11_125 a9_125 → kL_lists_L125 g m9 w9 (kL_lists_L29 g m9 w9 n_29) v4_125 v5_125 v7_125 v8_125 v9_125 v11_125 a9_125 → W p l e rL_lists s mi ([.ref (qg 0), .ref (qm 0), .ref (qw 0), .ref (qa 0), .int a5, .int a6, .int a7] : List Value).toArray below meth c H locs 0 0 (MQ below (gQi (dC, dI) (fun z9 : (Nat → Int32) => ia14 qg cI g ++ ia40 qm cI m9 ++ ia24 qw cI w9 ++ ia60 qa cI z9) (wA (ia14 qg cI g ++ ia40 qm cI m9 ++ ia24 qw cI w9 ++ ia60 qa cI a9)) (pL_lists g m9 w9 a9 a5 a6 a7)) ([.ref (qg 0), .ref (qm 0), .ref (qw 0), .ref (qa 0), .int a5, .int a6, .int a7] : List Value).toArray s 0 0 (wA (ia14 qg cI g ++ ia40 qm cI m9 ++ ia24 qw cI w9 ++ ia60 qa cI a9))) (F0 mi 125 ls []) := by
        intro v4_125 v5_125 v7_125 v8_125 v9_125 v11_125 a9_125 H locs hP hS ls hl hf hok
        refine lv_iconst (v := 1) hx hb dL_lists_125 (by decide) ?_
        refine lv_goto (tgt := 130) hx hb dL_lists_126 (by decide) ?_
        exact J_130 v4_125 v5_125 v7_125 v8_125 v9_125 v11_125 true a9_125 _ _ hP hS _ (lv_sub hl [0, 1, 2, 3, 4, 5, 6, 7, 8] rfl) hf hok
      have J_129 : ∀ (v4_129 : Int32) (v5_129 : Int32) (v7_129 : Int32) (v8_129 : Int32) (v9_129 : Bool) (v11_129 : Int32) (a9_129 : (Nat → Int32)) (H : Heap) (locs : List Loc), va_P (dC, dI) vwCl (ia14 qg cI g ++ ia40 qm cI m9 ++ ia24 qw cI w9 ++ ia60 qa cI a9_129) H → va_S (wA (ia14 qg cI g ++ ia40 qm cI m9 ++ ia24 qw cI w9 ++ ia60 qa cI a9)) s.heap H locs → ∀ ls : Array Slot, lv_has ls 20 [(0, .ref (qg 0)), (2, .ref (qw 0)), (3, .ref (qa 0)), (4, .int v4_129), (5, .int v5_129), (7, .int v7_129), (8, .int v8_129), (9, .int (bz v9_129)), (11, .int v11_129)] → F = pL_lists_L129 g m9 w9 (pL_lists_L29 g m9 w9 n_29) v4_129 v5_129 v7_129 v8_129 v9_129 v11_129 a9_129 → kL_lists_L129 g m9 w9 (kL_lists_L29 g m9 w9 n_29) v4_129 v5_129 v7_129 v8_129 v9_129 v11_129 a9_129 → W p l e rL_lists s mi ([.ref (qg 0), .ref (qm 0), .ref (qw 0), .ref (qa 0), .int a5, .int a6, .int a7] : List Value).toArray below meth c H locs 0 0 (MQ below (gQi (dC, dI) (fun z9 : (Nat → Int32) => ia14 qg cI g ++ ia40 qm cI m9 ++ ia24 qw cI w9 ++ ia60 qa cI z9) (wA (ia14 qg cI g ++ ia40 qm cI m9 ++ ia24 qw cI w9 ++ ia60 qa cI a9)) (pL_lists g m9 w9 a9 a5 a6 a7)) ([.ref (qg 0), .ref (qm 0), .ref (qw 0), .ref (qa 0), .int a5, .int a6, .int a7] : List Value).toArray s 0 0 (wA (ia14 qg cI g ++ ia40 qm cI m9 ++ ia24 qw cI w9 ++ ia60 qa cI a9))) (F0 mi 129 ls []) := by
        intro v4_129 v5_129 v7_129 v8_129 v9_129 v11_129 a9_129 H locs hP hS ls hl hf hok
        refine lv_iconst (v := 0) hx hb dL_lists_129 (by decide) ?_
        exact J_130 v4_129 v5_129 v7_129 v8_129 v9_129 v11_129 false a9_129 _ _ hP hS _ (lv_sub hl [0, 1, 2, 3, 4, 5, 6, 7, 8] rfl) hf hok
      intro v4_29 v5_29 v7_29 v8_29 v9_29 v10_29 v11_29 a9_29 H locs hP hS ls hl hf hok
      have hf : F = bL_lists_L29 g m9 w9 (pL_lists_L29 g m9 w9 n_29) v4_29 v5_29 v7_29 v8_29 v9_29 v10_29 v11_29 a9_29 := hf
      have hok : kbL_lists_L29 g m9 w9 (kL_lists_L29 g m9 w9 n_29) v4_29 v5_29 v7_29 v8_29 v9_29 v10_29 v11_29 a9_29 := hok
      refine lv_iload hx hb dL_lists_29 (lv_at hl 9 rfl) ?_
      refine lv_aload_n hx hb dL_lists_31 rfl (lv_at hl 0 rfl) ?_
      refine lv_iconst (v := 4) hx hb dL_lists_32 (by decide) ?_
      refine g_ialdK (D := (dC, dI)) (tys := (tYS cI cB cO cL)) (k := 4) hx hb hK hP 0 0 rfl rfl (by decide) (by decide) (by decide) dL_lists_33 ?_
      refine lv_icmp_ge (tgt := 138) hx hb dL_lists_34 (by decide) (fun c3 => ?_) (fun c3 => ?_)
      · have hf := it_eq c3 hf
        have hok := it_ok c3 hok
        refine lv_iload hx hb dL_lists_138 (lv_at hl 8 rfl) ?_
        refine lv_if_eq (tgt := 147) hx hb dL_lists_140 (by decide) (fun c4 => ?_) (fun c4 => ?_)
        · have c4 := bz_f c4
          have hf := ie_eq c4 hf
          have hok := ie_ok c4 hok
          refine lv_iconst (v := 0) hx hb dL_lists_147 (by decide) ?_
          exact J_148 v4_29 v5_29 v7_29 v8_29 v9_29 false a9_29 _ _ hP hS _ (lv_sub hl [0, 1, 2, 3, 4, 5, 6, 7] rfl) hf hok
        · have c4 := bz_t c4
          have hf := it_eq c4 hf
          have hok := it_ok c4 hok
          refine lv_iconst (v := 1) hx hb dL_lists_143 (by decide) ?_
          refine lv_goto (tgt := 148) hx hb dL_lists_144 (by decide) ?_
          exact J_148 v4_29 v5_29 v7_29 v8_29 v9_29 true a9_29 _ _ hP hS _ (lv_sub hl [0, 1, 2, 3, 4, 5, 6, 7] rfl) hf hok
      · have hf := ie_eq c3 hf
        have hok := ie_ok c3 hok
        refine lv_bipush (v := 12) hx hb dL_lists_37 (by decide) ?_
        refine lv_iconst (v := 4) hx hb dL_lists_39 (by decide) ?_
        refine lv_iload hx hb dL_lists_40 (lv_at hl 9 rfl) ?_
        refine lv_imul hx hb dL_lists_42 ?_
        refine lv_iadd hx hb dL_lists_43 ?_
        refine lv_topi (fun x54 ex54 => ?_)
        have hf := lt_eq ex54 hf
        have hok := lt_ok ex54 hok
        refine lv_istore (lv' := [(12, .int x54), (0, .ref (qg 0)), (2, .ref (qw 0)), (3, .ref (qa 0)), (4, .int v4_29), (5, .int v5_29), (7, .int v7_29), (8, .int v8_29), (9, .int (bz v9_29)), (10, .int (bz v10_29)), (11, .int v11_29)]) hx hb dL_lists_44 hl (by decide) rfl (fun ls hl => ?_)
        refine lv_iload hx hb dL_lists_46 (lv_at hl 9 rfl) ?_
        refine lv_if_ne (tgt := 125) hx hb dL_lists_48 (by decide) (fun c55 => ?_) (fun c55 => ?_)
        · have c55 := bz_t c55
          have hf := it_eq c55 hf
          have hok := it_ok c55 hok
          exact J_125 v4_29 v5_29 v7_29 v8_29 v9_29 v11_29 a9_29 _ _ hP hS _ (lv_sub hl [1, 2, 3, 4, 5, 6, 7, 8, 10] rfl) hf hok
        · have c55 := bz_f c55
          have hf := ie_eq c55 hf
          have hok := ie_ok c55 hok
          refine lv_aload_n hx hb dL_lists_51 rfl (lv_at hl 2 rfl) ?_
          refine lv_iload hx hb dL_lists_52 (lv_at hl 0 rfl) ?_
          obtain ⟨h66, hok⟩ := hok
          refine va_iald (D := (dC, dI)) (tys := (tYS cI cB cO cL)) hx hb hK hP 2 0 rfl rfl h66 dL_lists_54 ?_
          refine lv_if_ne (tgt := 93) hx hb dL_lists_55 (by decide) (fun c57 => ?_) (fun c57 => ?_)
          · have hf := ie_eq c57 hf
            have hok := ie_ok c57 hok
            refine lv_aload_n hx hb dL_lists_93 rfl (lv_at hl 2 rfl) ?_
            refine lv_iload hx hb dL_lists_94 (lv_at hl 0 rfl) ?_
            refine lv_iconst (v := 1) hx hb dL_lists_96 (by decide) ?_
            refine lv_iadd hx hb dL_lists_97 ?_
            obtain ⟨h61, hok⟩ := hok
            refine va_iald (D := (dC, dI)) (tys := (tYS cI cB cO cL)) hx hb hK hP 2 0 rfl rfl h61 dL_lists_98 ?_
            refine lv_aload_n hx hb dL_lists_99 rfl (lv_at hl 2 rfl) ?_
            refine lv_iload hx hb dL_lists_100 (lv_at hl 0 rfl) ?_
            refine lv_iconst (v := 2) hx hb dL_lists_102 (by decide) ?_
            refine lv_iadd hx hb dL_lists_103 ?_
            obtain ⟨h60, hok⟩ := hok
            refine va_iald (D := (dC, dI)) (tys := (tYS cI cB cO cL)) hx hb hK hP 2 0 rfl rfl h60 dL_lists_104 ?_
            refine lv_aload_n hx hb dL_lists_105 rfl (lv_at hl 2 rfl) ?_
            refine lv_iload hx hb dL_lists_106 (lv_at hl 0 rfl) ?_
            refine lv_iconst (v := 3) hx hb dL_lists_108 (by decide) ?_
            refine lv_iadd hx hb dL_lists_109 ?_
            obtain ⟨h59, hok⟩ := hok
            refine va_iald (D := (dC, dI)) (tys := (tYS cI cB cO cL)) hx hb hK hP 2 0 rfl rfl h59 dL_lists_110 ?_
            refine lv_iload hx hb dL_lists_111 (lv_at hl 5 rfl) ?_
            refine lv_iload hx hb dL_lists_113 (lv_at hl 4 rfl) ?_
            refine lv_iload hx hb dL_lists_115 (lv_at hl 7 rfl) ?_
            refine lv_iload hx hb dL_lists_117 (lv_at hl 6 rfl) ?_
            refine gro_i (va_runS (As := [.int (w9 ((x54 + 1).toNatClampNeg)), .int (w9 ((x54 + 2).toNatClampNeg)), .int (w9 ((x54 + 3).toNatClampNeg)), .int v5_29, .int v4_29, .int v8_29, .int v7_29]) (rest := []) ⟨hx, hb, hml, hown, hts⟩ (mL_takes l dC dI cI cB cO cL  (w9 ((x54 + 1).toNatClampNeg)) (w9 ((x54 + 2).toNatClampNeg)) (w9 ((x54 + 3).toNatClampNeg)) v5_29 v4_29 v8_29 v7_29  ) (va_cwS 7 hts gL_lists_L_takes rfl rfl rfl (by decide +kernel) ⟨Nat.le_of_ble_eq_true rfl, Nat.le_of_ble_eq_true rfl⟩) ⟨gP_blind, gP_ok va_P_nil hK⟩ rfl rfl hl.1 rfl (lv_room (Nat.le_of_ble_eq_true rfl)) dL_lists_119 ⟨Nat.zero_le _, Nat.zero_le _⟩) ?_
            refine lv_if_eq (tgt := 129) hx hb dL_lists_122 (by decide) (fun c58 => ?_) (fun c58 => ?_)
            · have c58 := bz_f c58
              have hf := ie_eq c58 hf
              have hok := ie_ok c58 hok
              exact J_129 v4_29 v5_29 v7_29 v8_29 v9_29 v11_29 a9_29 _ _ hP hS _ (lv_sub hl [1, 2, 3, 4, 5, 6, 7, 8, 10] rfl) hf hok
            · have c58 := bz_t c58
              have hf := it_eq c58 hf
              have hok := it_ok c58 hok
              exact J_125 v4_29 v5_29 v7_29 v8_29 v9_29 v11_29 a9_29 _ _ hP hS _ (lv_sub hl [1, 2, 3, 4, 5, 6, 7, 8, 10] rfl) hf hok
          · have hf := it_eq c57 hf
            have hok := it_ok c57 hok
            refine lv_aload_n hx hb dL_lists_58 rfl (lv_at hl 2 rfl) ?_
            refine lv_iload hx hb dL_lists_59 (lv_at hl 0 rfl) ?_
            refine lv_iconst (v := 1) hx hb dL_lists_61 (by decide) ?_
            refine lv_iadd hx hb dL_lists_62 ?_
            obtain ⟨h65, hok⟩ := hok
            refine va_iald (D := (dC, dI)) (tys := (tYS cI cB cO cL)) hx hb hK hP 2 0 rfl rfl h65 dL_lists_63 ?_
            refine lv_aload_n hx hb dL_lists_64 rfl (lv_at hl 2 rfl) ?_
            refine lv_iload hx hb dL_lists_65 (lv_at hl 0 rfl) ?_
            refine lv_iconst (v := 2) hx hb dL_lists_67 (by decide) ?_
            refine lv_iadd hx hb dL_lists_68 ?_
            obtain ⟨h64, hok⟩ := hok
            refine va_iald (D := (dC, dI)) (tys := (tYS cI cB cO cL)) hx hb hK hP 2 0 rfl rfl h64 dL_lists_69 ?_
            refine lv_aload_n hx hb dL_lists_70 rfl (lv_at hl 2 rfl) ?_
            refine lv_iload hx hb dL_lists_71 (lv_at hl 0 rfl) ?_
            refine lv_iconst (v := 3) hx hb dL_lists_73 (by decide) ?_
            refine lv_iadd hx hb dL_lists_74 ?_
            obtain ⟨h63, hok⟩ := hok
            refine va_iald (D := (dC, dI)) (tys := (tYS cI cB cO cL)) hx hb hK hP 2 0 rfl rfl h63 dL_lists_75 ?_
            refine lv_iload hx hb dL_lists_76 (lv_at hl 4 rfl) ?_
            refine lv_iload hx hb dL_lists_78 (lv_at hl 5 rfl) ?_
            refine lv_iload hx hb dL_lists_80 (lv_at hl 6 rfl) ?_
            refine lv_iload hx hb dL_lists_82 (lv_at hl 7 rfl) ?_
            refine gro_i (va_runS (As := [.int (w9 ((x54 + 1).toNatClampNeg)), .int (w9 ((x54 + 2).toNatClampNeg)), .int (w9 ((x54 + 3).toNatClampNeg)), .int v4_29, .int v5_29, .int v7_29, .int v8_29]) (rest := []) ⟨hx, hb, hml, hown, hts⟩ (mL_takes l dC dI cI cB cO cL  (w9 ((x54 + 1).toNatClampNeg)) (w9 ((x54 + 2).toNatClampNeg)) (w9 ((x54 + 3).toNatClampNeg)) v4_29 v5_29 v7_29 v8_29  ) (va_cwS 7 hts gL_lists_L_takes rfl rfl rfl (by decide +kernel) ⟨Nat.le_of_ble_eq_true rfl, Nat.le_of_ble_eq_true rfl⟩) ⟨gP_blind, gP_ok va_P_nil hK⟩ rfl rfl hl.1 rfl (lv_room (Nat.le_of_ble_eq_true rfl)) dL_lists_84 ⟨Nat.zero_le _, Nat.zero_le _⟩) ?_
            refine lv_if_eq (tgt := 129) hx hb dL_lists_87 (by decide) (fun c62 => ?_) (fun c62 => ?_)
            · have c62 := bz_f c62
              have hf := ie_eq c62 hf
              have hok := ie_ok c62 hok
              exact J_129 v4_29 v5_29 v7_29 v8_29 v9_29 v11_29 a9_29 _ _ hP hS _ (lv_sub hl [1, 2, 3, 4, 5, 6, 7, 8, 10] rfl) hf hok
            · have c62 := bz_t c62
              have hf := it_eq c62 hf
              have hok := it_ok c62 hok
              refine lv_goto (tgt := 125) hx hb dL_lists_90 (by decide) ?_
              exact J_125 v4_29 v5_29 v7_29 v8_29 v9_29 v11_29 a9_29 _ _ hP hS _ (lv_sub hl [1, 2, 3, 4, 5, 6, 7, 8, 10] rfl) hf hok
  refine lv_aload_n hx hb dL_lists_0 rfl (lv_at hl 1 rfl) ?_
  refine lv_bipush (v := 10) hx hb dL_lists_1 (by decide) ?_
  refine lv_iload hx hb dL_lists_3 (lv_at hl 6 rfl) ?_
  refine lv_imul hx hb dL_lists_5 ?_
  obtain ⟨h68, hok⟩ := hok
  refine va_iald (D := (dC, dI)) (tys := (tYS cI cB cO cL)) hx hb hK hP 1 0 rfl rfl h68 dL_lists_6 ?_
  refine lv_topi (fun x1 ex1 => ?_)
  have hf := lt_eq ex1 hf
  have hok := lt_ok ex1 hok
  refine lv_istore (lv' := [(7, .int x1), (0, .ref (qg 0)), (1, .ref (qm 0)), (2, .ref (qw 0)), (3, .ref (qa 0)), (4, .int a5), (5, .int a6), (6, .int a7)]) hx hb dL_lists_7 hl (by decide) rfl (fun ls hl => ?_)
  refine lv_aload_n hx hb dL_lists_9 rfl (lv_at hl 2 rfl) ?_
  refine lv_bipush (v := 10) hx hb dL_lists_10 (by decide) ?_
  refine lv_iload hx hb dL_lists_12 (lv_at hl 7 rfl) ?_
  refine lv_imul hx hb dL_lists_14 ?_
  refine lv_iconst (v := 1) hx hb dL_lists_15 (by decide) ?_
  refine lv_iadd hx hb dL_lists_16 ?_
  obtain ⟨h67, hok⟩ := hok
  refine va_iald (D := (dC, dI)) (tys := (tYS cI cB cO cL)) hx hb hK hP 1 0 rfl rfl h67 dL_lists_17 ?_
  refine lv_topi (fun x2 ex2 => ?_)
  have hf := lt_eq ex2 hf
  have hok := lt_ok ex2 hok
  refine lv_istore (lv' := [(8, .int x2), (7, .int x1), (0, .ref (qg 0)), (1, .ref (qm 0)), (2, .ref (qw 0)), (3, .ref (qa 0)), (4, .int a5), (5, .int a6), (6, .int a7)]) hx hb dL_lists_18 hl (by decide) rfl (fun ls hl => ?_)
  refine lv_iconst (v := 0) hx hb dL_lists_20 (by decide) ?_
  refine lv_istore (lv' := [(9, .int 0), (8, .int x2), (7, .int x1), (0, .ref (qg 0)), (1, .ref (qm 0)), (2, .ref (qw 0)), (3, .ref (qa 0)), (4, .int a5), (5, .int a6), (6, .int a7)]) hx hb dL_lists_21 hl (by decide) rfl (fun ls hl => ?_)
  refine lv_iconst (v := 0) hx hb dL_lists_23 (by decide) ?_
  refine lv_istore (lv' := [(10, .int 0), (9, .int 0), (8, .int x2), (7, .int x1), (0, .ref (qg 0)), (1, .ref (qm 0)), (2, .ref (qw 0)), (3, .ref (qa 0)), (4, .int a5), (5, .int a6), (6, .int a7)]) hx hb dL_lists_24 hl (by decide) rfl (fun ls hl => ?_)
  refine lv_iconst (v := 0) hx hb dL_lists_26 (by decide) ?_
  refine lv_istore (lv' := [(11, .int 0), (10, .int 0), (9, .int 0), (8, .int x2), (7, .int x1), (0, .ref (qg 0)), (1, .ref (qm 0)), (2, .ref (qw 0)), (3, .ref (qa 0)), (4, .int a5), (5, .int a6), (6, .int a7)]) hx hb dL_lists_27 hl (by decide) rfl (fun ls hl => ?_)
  exact J_29 fu a5 a6 x1 x2 false false 0 a9 _ _ hP hS _ (lv_sub hl [5, 7, 8, 9, 10, 4, 3, 2, 1, 0] rfl) hf hok
