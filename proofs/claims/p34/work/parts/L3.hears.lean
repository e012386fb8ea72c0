/-! THE LAW: a click heard -/
noncomputable def pL_hears_L375 (w9 : (Nat → Int32)) (q_12 : Int32 → Int32 → Int32 → Int32 → Int32 → ((Nat → Int32)) → ((Nat → Int32)) → ((Nat → Int32)) → (Int32 × (Nat → Int32) × (Nat → Int32))) (v3_375 : Int32) (v4_375 : Int32) (v5_375 : Int32) (v8_375 : Int32) (t0_375 : Int32) (t1_375 : Bool) (g_375 : (Nat → Int32)) (m9_375 : (Nat → Int32)) (a9_375 : (Nat → Int32)) : Int32 × (Nat → Int32) × (Nat → Int32) := lt (t0_375 + (bz t1_375)) fun (x25 : Int32) => lt (v8_375 + 1) fun (x26 : Int32) => q_12 v3_375 v4_375 v5_375 x25 x26 g_375 m9_375 a9_375
def kL_hears_L375 (w9 : (Nat → Int32)) (Q_12 : Int32 → Int32 → Int32 → Int32 → Int32 → ((Nat → Int32)) → ((Nat → Int32)) → ((Nat → Int32)) → Prop) (v3_375 : Int32) (v4_375 : Int32) (v5_375 : Int32) (v8_375 : Int32) (t0_375 : Int32) (t1_375 : Bool) (g_375 : (Nat → Int32)) (m9_375 : (Nat → Int32)) (a9_375 : (Nat → Int32)) : Prop := lt (t0_375 + (bz t1_375)) fun (x25 : Int32) => lt (v8_375 + 1) fun (x26 : Int32) => Q_12 v3_375 v4_375 v5_375 x25 x26 g_375 m9_375 a9_375
noncomputable def pL_hears_L362 (w9 : (Nat → Int32)) (q_12 : Int32 → Int32 → Int32 → Int32 → Int32 → ((Nat → Int32)) → ((Nat → Int32)) → ((Nat → Int32)) → (Int32 × (Nat → Int32) × (Nat → Int32))) (v3_362 : Int32) (v4_362 : Int32) (v5_362 : Int32) (v7_362 : Int32) (v8_362 : Int32) (v10_362 : Int32) (t1_362 : Int32) (t2_362 : Int32) (g_362 : (Nat → Int32)) (m9_362 : (Nat → Int32)) (a9_362 : (Nat → Int32)) : Int32 × (Nat → Int32) × (Nat → Int32) := lt ((upd m9_362 t1_362.toNatClampNeg t2_362)) fun (m9_23 : (Nat → Int32)) => if 0 ≤ v10_362 then (pL_hears_L375 w9 q_12 v3_362 v4_362 v5_362 v8_362 v7_362 true g_362 m9_23 a9_362) else (pL_hears_L375 w9 q_12 v3_362 v4_362 v5_362 v8_362 v7_362 false g_362 m9_23 a9_362)
def kL_hears_L362 (w9 : (Nat → Int32)) (Q_12 : Int32 → Int32 → Int32 → Int32 → Int32 → ((Nat → Int32)) → ((Nat → Int32)) → ((Nat → Int32)) → Prop) (v3_362 : Int32) (v4_362 : Int32) (v5_362 : Int32) (v7_362 : Int32) (v8_362 : Int32) (v10_362 : Int32) (t1_362 : Int32) (t2_362 : Int32) (g_362 : (Nat → Int32)) (m9_362 : (Nat → Int32)) (a9_362 : (Nat → Int32)) : Prop := (vp_in t1_362 40) ∧ (lt ((upd m9_362 t1_362.toNatClampNeg t2_362)) fun (m9_23 : (Nat → Int32)) => if 0 ≤ v10_362 then (kL_hears_L375 w9 Q_12 v3_362 v4_362 v5_362 v8_362 v7_362 true g_362 m9_23 a9_362) else (kL_hears_L375 w9 Q_12 v3_362 v4_362 v5_362 v8_362 v7_362 false g_362 m9_23 a9_362))
noncomputable def pL_hears_L333 (w9 : (Nat → Int32)) (q_12 : Int32 → Int32 → Int32 → Int32 → Int32 → ((Nat → Int32)) → ((Nat → Int32)) → ((Nat → Int32)) → (Int32 × (Nat → Int32) × (Nat → Int32))) (v3_333 : Int32) (v4_333 : Int32) (v5_333 : Int32) (v7_333 : Int32) (v8_333 : Int32) (v10_333 : Int32) (t1_333 : Int32) (t2_333 : Int32) (g_333 : (Nat → Int32)) (m9_333 : (Nat → Int32)) (a9_333 : (Nat → Int32)) : Int32 × (Nat → Int32) × (Nat → Int32) := lt ((upd m9_333 t1_333.toNatClampNeg t2_333)) fun (m9_20 : (Nat → Int32)) => if 0 ≤ v10_333 then (pL_hears_L362 w9 q_12 v3_333 v4_333 v5_333 v7_333 v8_333 v10_333 ((10 * v8_333) + 9) (a9_333 (((5 * v10_333) + 4).toNatClampNeg)) g_333 m9_20 a9_333) else (pL_hears_L362 w9 q_12 v3_333 v4_333 v5_333 v7_333 v8_333 v10_333 ((10 * v8_333) + 9) (-1000000000) g_333 m9_20 a9_333)
def kL_hears_L333 (w9 : (Nat → Int32)) (Q_12 : Int32 → Int32 → Int32 → Int32 → Int32 → ((Nat → Int32)) → ((Nat → Int32)) → ((Nat → Int32)) → Prop) (v3_333 : Int32) (v4_333 : Int32) (v5_333 : Int32) (v7_333 : Int32) (v8_333 : Int32) (v10_333 : Int32) (t1_333 : Int32) (t2_333 : Int32) (g_333 : (Nat → Int32)) (m9_333 : (Nat → Int32)) (a9_333 : (Nat → Int32)) : Prop := (vp_in t1_333 40) ∧ (lt ((upd m9_333 t1_333.toNatClampNeg t2_333)) fun (m9_20 : (Nat → Int32)) => if 0 ≤ v10_333 then ((vp_in ((5 * v10_333) + 4) 60) ∧ (kL_hears_L362 w9 Q_12 v3_333 v4_333 v5_333 v7_333 v8_333 v10_333 ((10 * v8_333) + 9) (a9_333 (((5 * v10_333) + 4).toNatClampNeg)) g_333 m9_20 a9_333)) else (kL_hears_L362 w9 Q_12 v3_333 v4_333 v5_333 v7_333 v8_333 v10_333 ((10 * v8_333) + 9) (-1000000000) g_333 m9_20 a9_333))
noncomputable def pL_hears_L304 (w9 : (Nat → Int32)) (q_12 : Int32 → Int32 → Int32 → Int32 → Int32 → ((Nat → Int32)) → ((Nat → Int32)) → ((Nat → Int32)) → (Int32 × (Nat → Int32) × (Nat → Int32))) (v3_304 : Int32) (v4_304 : Int32) (v5_304 : Int32) (v7_304 : Int32) (v8_304 : Int32) (v10_304 : Int32) (t1_304 : Int32) (t2_304 : Int32) (g_304 : (Nat → Int32)) (m9_304 : (Nat → Int32)) (a9_304 : (Nat → Int32)) : Int32 × (Nat → Int32) × (Nat → Int32) := lt ((upd m9_304 t1_304.toNatClampNeg t2_304)) fun (m9_17 : (Nat → Int32)) => if 0 ≤ v10_304 then (pL_hears_L333 w9 q_12 v3_304 v4_304 v5_304 v7_304 v8_304 v10_304 ((10 * v8_304) + 8) (a9_304 (((5 * v10_304) + 3).toNatClampNeg)) g_304 m9_17 a9_304) else (pL_hears_L333 w9 q_12 v3_304 v4_304 v5_304 v7_304 v8_304 v10_304 ((10 * v8_304) + 8) (-1000000000) g_304 m9_17 a9_304)
def kL_hears_L304 (w9 : (Nat → Int32)) (Q_12 : Int32 → Int32 → Int32 → Int32 → Int32 → ((Nat → Int32)) → ((Nat → Int32)) → ((Nat → Int32)) → Prop) (v3_304 : Int32) (v4_304 : Int32) (v5_304 : Int32) (v7_304 : Int32) (v8_304 : Int32) (v10_304 : Int32) (t1_304 : Int32) (t2_304 : Int32) (g_304 : (Nat → Int32)) (m9_304 : (Nat → Int32)) (a9_304 : (Nat → Int32)) : Prop := (vp_in t1_304 40) ∧ (lt ((upd m9_304 t1_304.toNatClampNeg t2_304)) fun (m9_17 : (Nat → Int32)) => if 0 ≤ v10_304 then ((vp_in ((5 * v10_304) + 3) 60) ∧ (kL_hears_L333 w9 Q_12 v3_304 v4_304 v5_304 v7_304 v8_304 v10_304 ((10 * v8_304) + 8) (a9_304 (((5 * v10_304) + 3).toNatClampNeg)) g_304 m9_17 a9_304)) else (kL_hears_L333 w9 Q_12 v3_304 v4_304 v5_304 v7_304 v8_304 v10_304 ((10 * v8_304) + 8) (-1000000000) g_304 m9_17 a9_304))
noncomputable def pL_hears_L275 (w9 : (Nat → Int32)) (q_12 : Int32 → Int32 → Int32 → Int32 → Int32 → ((Nat → Int32)) → ((Nat → Int32)) → ((Nat → Int32)) → (Int32 × (Nat → Int32) × (Nat → Int32))) (v3_275 : Int32) (v4_275 : Int32) (v5_275 : Int32) (v7_275 : Int32) (v8_275 : Int32) (v10_275 : Int32) (t1_275 : Int32) (t2_275 : Int32) (g_275 : (Nat → Int32)) (m9_275 : (Nat → Int32)) (a9_275 : (Nat → Int32)) : Int32 × (Nat → Int32) × (Nat → Int32) := lt ((upd m9_275 t1_275.toNatClampNeg t2_275)) fun (m9_14 : (Nat → Int32)) => if 0 ≤ v10_275 then (pL_hears_L304 w9 q_12 v3_275 v4_275 v5_275 v7_275 v8_275 v10_275 ((10 * v8_275) + 7) (a9_275 (((5 * v10_275) + 2).toNatClampNeg)) g_275 m9_14 a9_275) else (pL_hears_L304 w9 q_12 v3_275 v4_275 v5_275 v7_275 v8_275 v10_275 ((10 * v8_275) + 7) (-1000000000) g_275 m9_14 a9_275)
def kL_hears_L275 (w9 : (Nat → Int32)) (Q_12 : Int32 → Int32 → Int32 → Int32 → Int32 → ((Nat → Int32)) → ((Nat → Int32)) → ((Nat → Int32)) → Prop) (v3_275 : Int32) (v4_275 : Int32) (v5_275 : Int32) (v7_275 : Int32) (v8_275 : Int32) (v10_275 : Int32) (t1_275 : Int32) (t2_275 : Int32) (g_275 : (Nat → Int32)) (m9_275 : (Nat → Int32)) (a9_275 : (Nat → Int32)) : Prop := (vp_in t1_275 40) ∧ (lt ((upd m9_275 t1_275.toNatClampNeg t2_275)) fun (m9_14 : (Nat → Int32)) => if 0 ≤ v10_275 then ((vp_in ((5 * v10_275) + 2) 60) ∧ (kL_hears_L304 w9 Q_12 v3_275 v4_275 v5_275 v7_275 v8_275 v10_275 ((10 * v8_275) + 7) (a9_275 (((5 * v10_275) + 2).toNatClampNeg)) g_275 m9_14 a9_275)) else (kL_hears_L304 w9 Q_12 v3_275 v4_275 v5_275 v7_275 v8_275 v10_275 ((10 * v8_275) + 7) (-1000000000) g_275 m9_14 a9_275))
noncomputable def pL_hears_L237 (w9 : (Nat → Int32)) (q_12 : Int32 → Int32 → Int32 → Int32 → Int32 → ((Nat → Int32)) → ((Nat → Int32)) → ((Nat → Int32)) → (Int32 × (Nat → Int32) × (Nat → Int32))) (v3_237 : Int32) (v4_237 : Int32) (v5_237 : Int32) (v7_237 : Int32) (v8_237 : Int32) (v10_237 : Int32) (v11_237 : Int32) (t1_237 : Int32) (t2_237 : Bool) (g_237 : (Nat → Int32)) (m9_237 : (Nat → Int32)) (a9_237 : (Nat → Int32)) : Int32 × (Nat → Int32) × (Nat → Int32) := lt ((upd m9_237 t1_237.toNatClampNeg (bz t2_237))) fun (m9_9 : (Nat → Int32)) => lt ((upd m9_9 (((10 * v8_237) + 5).toNatClampNeg) v11_237)) fun (m9_11 : (Nat → Int32)) => if 0 ≤ v10_237 then (pL_hears_L275 w9 q_12 v3_237 v4_237 v5_237 v7_237 v8_237 v10_237 ((10 * v8_237) + 6) (a9_237 ((5 * v10_237).toNatClampNeg)) g_237 m9_11 a9_237) else (pL_hears_L275 w9 q_12 v3_237 v4_237 v5_237 v7_237 v8_237 v10_237 ((10 * v8_237) + 6) (-1000000000) g_237 m9_11 a9_237)
def kL_hears_L237 (w9 : (Nat → Int32)) (Q_12 : Int32 → Int32 → Int32 → Int32 → Int32 → ((Nat → Int32)) → ((Nat → Int32)) → ((Nat → Int32)) → Prop) (v3_237 : Int32) (v4_237 : Int32) (v5_237 : Int32) (v7_237 : Int32) (v8_237 : Int32) (v10_237 : Int32) (v11_237 : Int32) (t1_237 : Int32) (t2_237 : Bool) (g_237 : (Nat → Int32)) (m9_237 : (Nat → Int32)) (a9_237 : (Nat → Int32)) : Prop := (vp_in t1_237 40) ∧ (lt ((upd m9_237 t1_237.toNatClampNeg (bz t2_237))) fun (m9_9 : (Nat → Int32)) => (vp_in ((10 * v8_237) + 5) 40) ∧ (lt ((upd m9_9 (((10 * v8_237) + 5).toNatClampNeg) v11_237)) fun (m9_11 : (Nat → Int32)) => if 0 ≤ v10_237 then ((vp_in (5 * v10_237) 60) ∧ (kL_hears_L275 w9 Q_12 v3_237 v4_237 v5_237 v7_237 v8_237 v10_237 ((10 * v8_237) + 6) (a9_237 ((5 * v10_237).toNatClampNeg)) g_237 m9_11 a9_237)) else (kL_hears_L275 w9 Q_12 v3_237 v4_237 v5_237 v7_237 v8_237 v10_237 ((10 * v8_237) + 6) (-1000000000) g_237 m9_11 a9_237)))
noncomputable def pL_hears_L213 (w9 : (Nat → Int32)) (q_12 : Int32 → Int32 → Int32 → Int32 → Int32 → ((Nat → Int32)) → ((Nat → Int32)) → ((Nat → Int32)) → (Int32 × (Nat → Int32) × (Nat → Int32))) (q_44 : Int32 → Int32 → Int32 → Int32 → Int32 → Int32 → Int32 → Int32 → Int32 → ((Nat → Int32)) → ((Nat → Int32)) → ((Nat → Int32)) → (Int32 × (Nat → Int32) × (Nat → Int32))) (v3_213 : Int32) (v4_213 : Int32) (v5_213 : Int32) (v7_213 : Int32) (v8_213 : Int32) (v9_213 : Int32) (v10_213 : Int32) (v11_213 : Int32) (v12_213 : Int32) (g_213 : (Nat → Int32)) (m9_213 : (Nat → Int32)) (a9_213 : (Nat → Int32)) : Int32 × (Nat → Int32) × (Nat → Int32) := lt (v12_213 + 1) fun (x39 : Int32) => q_44 v3_213 v4_213 v5_213 v7_213 v8_213 v9_213 v10_213 v11_213 x39 g_213 m9_213 a9_213
def kL_hears_L213 (w9 : (Nat → Int32)) (Q_12 : Int32 → Int32 → Int32 → Int32 → Int32 → ((Nat → Int32)) → ((Nat → Int32)) → ((Nat → Int32)) → Prop) (Q_44 : Int32 → Int32 → Int32 → Int32 → Int32 → Int32 → Int32 → Int32 → Int32 → ((Nat → Int32)) → ((Nat → Int32)) → ((Nat → Int32)) → Prop) (v3_213 : Int32) (v4_213 : Int32) (v5_213 : Int32) (v7_213 : Int32) (v8_213 : Int32) (v9_213 : Int32) (v10_213 : Int32) (v11_213 : Int32) (v12_213 : Int32) (g_213 : (Nat → Int32)) (m9_213 : (Nat → Int32)) (a9_213 : (Nat → Int32)) : Prop := lt (v12_213 + 1) fun (x39 : Int32) => Q_44 v3_213 v4_213 v5_213 v7_213 v8_213 v9_213 v10_213 v11_213 x39 g_213 m9_213 a9_213
noncomputable def pL_hears_L205 (w9 : (Nat → Int32)) (q_12 : Int32 → Int32 → Int32 → Int32 → Int32 → ((Nat → Int32)) → ((Nat → Int32)) → ((Nat → Int32)) → (Int32 × (Nat → Int32) × (Nat → Int32))) (q_44 : Int32 → Int32 → Int32 → Int32 → Int32 → Int32 → Int32 → Int32 → Int32 → ((Nat → Int32)) → ((Nat → Int32)) → ((Nat → Int32)) → (Int32 × (Nat → Int32) × (Nat → Int32))) (v3_205 : Int32) (v4_205 : Int32) (v5_205 : Int32) (v7_205 : Int32) (v8_205 : Int32) (v9_205 : Int32) (v12_205 : Int32) (v15_205 : Int32) (g_205 : (Nat → Int32)) (m9_205 : (Nat → Int32)) (a9_205 : (Nat → Int32)) : Int32 × (Nat → Int32) × (Nat → Int32) := pL_hears_L213 w9 q_12 q_44 v3_205 v4_205 v5_205 v7_205 v8_205 v9_205 v12_205 v15_205 v12_205 g_205 m9_205 a9_205
def kL_hears_L205 (w9 : (Nat → Int32)) (Q_12 : Int32 → Int32 → Int32 → Int32 → Int32 → ((Nat → Int32)) → ((Nat → Int32)) → ((Nat → Int32)) → Prop) (Q_44 : Int32 → Int32 → Int32 → Int32 → Int32 → Int32 → Int32 → Int32 → Int32 → ((Nat → Int32)) → ((Nat → Int32)) → ((Nat → Int32)) → Prop) (v3_205 : Int32) (v4_205 : Int32) (v5_205 : Int32) (v7_205 : Int32) (v8_205 : Int32) (v9_205 : Int32) (v12_205 : Int32) (v15_205 : Int32) (g_205 : (Nat → Int32)) (m9_205 : (Nat → Int32)) (a9_205 : (Nat → Int32)) : Prop := kL_hears_L213 w9 Q_12 Q_44 v3_205 v4_205 v5_205 v7_205 v8_205 v9_205 v12_205 v15_205 v12_205 g_205 m9_205 a9_205
noncomputable def pL_hears_L105 (w9 : (Nat → Int32)) (q_12 : Int32 → Int32 → Int32 → Int32 → Int32 → ((Nat → Int32)) → ((Nat → Int32)) → ((Nat → Int32)) → (Int32 × (Nat → Int32) × (Nat → Int32))) (q_44 : Int32 → Int32 → Int32 → Int32 → Int32 → Int32 → Int32 → Int32 → Int32 → ((Nat → Int32)) → ((Nat → Int32)) → ((Nat → Int32)) → (Int32 × (Nat → Int32) × (Nat → Int32))) (v3_105 : Int32) (v4_105 : Int32) (v5_105 : Int32) (v7_105 : Int32) (v8_105 : Int32) (v9_105 : Int32) (v10_105 : Int32) (v11_105 : Int32) (v12_105 : Int32) (v13_105 : Int32) (v14_105 : Bool) (g_105 : (Nat → Int32)) (m9_105 : (Nat → Int32)) (a9_105 : (Nat → Int32)) : Int32 × (Nat → Int32) × (Nat → Int32) := lt (((v5_105 + (((a9_105 (((5 * v12_105) + 1).toNatClampNeg)) * 1000) / (g_105 7))) + (m9_105 (((10 * v8_105) + 2).toNatClampNeg))) + v13_105) fun (x37 : Int32) => if v14_105 = true then (if (a9_105 (((5 * v12_105) + 2).toNatClampNeg)) < (g_105 11) then (pL_hears_L213 w9 q_12 q_44 v3_105 v4_105 v5_105 v7_105 v8_105 v9_105 v10_105 v11_105 v12_105 g_105 m9_105 a9_105) else (if v10_105 < 0 then (pL_hears_L205 w9 q_12 q_44 v3_105 v4_105 v5_105 v7_105 v8_105 v9_105 v12_105 x37 g_105 m9_105 a9_105) else (if (g_105 12) = 0 then (if v11_105 ≤ x37 then (pL_hears_L213 w9 q_12 q_44 v3_105 v4_105 v5_105 v7_105 v8_105 v9_105 v10_105 v11_105 v12_105 g_105 m9_105 a9_105) else (pL_hears_L205 w9 q_12 q_44 v3_105 v4_105 v5_105 v7_105 v8_105 v9_105 v12_105 x37 g_105 m9_105 a9_105)) else (if (a9_105 (((5 * v12_105) + 2).toNatClampNeg)) ≤ (a9_105 (((5 * v10_105) + 2).toNatClampNeg)) then (pL_hears_L213 w9 q_12 q_44 v3_105 v4_105 v5_105 v7_105 v8_105 v9_105 v10_105 v11_105 v12_105 g_105 m9_105 a9_105) else (pL_hears_L205 w9 q_12 q_44 v3_105 v4_105 v5_105 v7_105 v8_105 v9_105 v12_105 x37 g_105 m9_105 a9_105))))) else (pL_hears_L213 w9 q_12 q_44 v3_105 v4_105 v5_105 v7_105 v8_105 v9_105 v10_105 v11_105 v12_105 g_105 m9_105 a9_105)
def kL_hears_L105 (w9 : (Nat → Int32)) (Q_12 : Int32 → Int32 → Int32 → Int32 → Int32 → ((Nat → Int32)) → ((Nat → Int32)) → ((Nat → Int32)) → Prop) (Q_44 : Int32 → Int32 → Int32 → Int32 → Int32 → Int32 → Int32 → Int32 → Int32 → ((Nat → Int32)) → ((Nat → Int32)) → ((Nat → Int32)) → Prop) (v3_105 : Int32) (v4_105 : Int32) (v5_105 : Int32) (v7_105 : Int32) (v8_105 : Int32) (v9_105 : Int32) (v10_105 : Int32) (v11_105 : Int32) (v12_105 : Int32) (v13_105 : Int32) (v14_105 : Bool) (g_105 : (Nat → Int32)) (m9_105 : (Nat → Int32)) (a9_105 : (Nat → Int32)) : Prop := (vp_in ((5 * v12_105) + 1) 60) ∧ ((¬ (g_105 7) = 0) ∧ ((vp_in ((10 * v8_105) + 2) 40) ∧ (lt (((v5_105 + (((a9_105 (((5 * v12_105) + 1).toNatClampNeg)) * 1000) / (g_105 7))) + (m9_105 (((10 * v8_105) + 2).toNatClampNeg))) + v13_105) fun (x37 : Int32) => if v14_105 = true then ((vp_in ((5 * v12_105) + 2) 60) ∧ (if (a9_105 (((5 * v12_105) + 2).toNatClampNeg)) < (g_105 11) then (kL_hears_L213 w9 Q_12 Q_44 v3_105 v4_105 v5_105 v7_105 v8_105 v9_105 v10_105 v11_105 v12_105 g_105 m9_105 a9_105) else (if v10_105 < 0 then (kL_hears_L205 w9 Q_12 Q_44 v3_105 v4_105 v5_105 v7_105 v8_105 v9_105 v12_105 x37 g_105 m9_105 a9_105) else (if (g_105 12) = 0 then (if v11_105 ≤ x37 then (kL_hears_L213 w9 Q_12 Q_44 v3_105 v4_105 v5_105 v7_105 v8_105 v9_105 v10_105 v11_105 v12_105 g_105 m9_105 a9_105) else (kL_hears_L205 w9 Q_12 Q_44 v3_105 v4_105 v5_105 v7_105 v8_105 v9_105 v12_105 x37 g_105 m9_105 a9_105)) else ((vp_in ((5 * v12_105) + 2) 60) ∧ ((vp_in ((5 * v10_105) + 2) 60) ∧ (if (a9_105 (((5 * v12_105) + 2).toNatClampNeg)) ≤ (a9_105 (((5 * v10_105) + 2).toNatClampNeg)) then (kL_hears_L213 w9 Q_12 Q_44 v3_105 v4_105 v5_105 v7_105 v8_105 v9_105 v10_105 v11_105 v12_105 g_105 m9_105 a9_105) else (kL_hears_L205 w9 Q_12 Q_44 v3_105 v4_105 v5_105 v7_105 v8_105 v9_105 v12_105 x37 g_105 m9_105 a9_105)))))))) else (kL_hears_L213 w9 Q_12 Q_44 v3_105 v4_105 v5_105 v7_105 v8_105 v9_105 v10_105 v11_105 v12_105 g_105 m9_105 a9_105))))
noncomputable def pL_hears_L72 (w9 : (Nat → Int32)) (q_12 : Int32 → Int32 → Int32 → Int32 → Int32 → ((Nat → Int32)) → ((Nat → Int32)) → ((Nat → Int32)) → (Int32 × (Nat → Int32) × (Nat → Int32))) (q_44 : Int32 → Int32 → Int32 → Int32 → Int32 → Int32 → Int32 → Int32 → Int32 → ((Nat → Int32)) → ((Nat → Int32)) → ((Nat → Int32)) → (Int32 × (Nat → Int32) × (Nat → Int32))) (v3_72 : Int32) (v4_72 : Int32) (v5_72 : Int32) (v7_72 : Int32) (v8_72 : Int32) (v9_72 : Int32) (v10_72 : Int32) (v11_72 : Int32) (v12_72 : Int32) (v13_72 : Bool) (t0_72 : Bool) (g_72 : (Nat → Int32)) (m9_72 : (Nat → Int32)) (a9_72 : (Nat → Int32)) : Int32 × (Nat → Int32) × (Nat → Int32) := if t0_72 = true then (if (g_72 10) ≤ 0 then (pL_hears_L105 w9 q_12 q_44 v3_72 v4_72 v5_72 v7_72 v8_72 v9_72 v10_72 v11_72 v12_72 (bz v13_72) t0_72 g_72 m9_72 a9_72) else (bd (pL_draw g_72 ((2 * (g_72 10)) + 1)) fun (r52 : Int32) (u53 : (Nat → Int32)) => lt (r52 - (u53 10)) fun (x54 : Int32) => pL_hears_L105 w9 q_12 q_44 v3_72 v4_72 v5_72 v7_72 v8_72 v9_72 v10_72 v11_72 v12_72 x54 t0_72 u53 m9_72 a9_72)) else (pL_hears_L105 w9 q_12 q_44 v3_72 v4_72 v5_72 v7_72 v8_72 v9_72 v10_72 v11_72 v12_72 (bz v13_72) t0_72 g_72 m9_72 a9_72)
def kL_hears_L72 (w9 : (Nat → Int32)) (Q_12 : Int32 → Int32 → Int32 → Int32 → Int32 → ((Nat → Int32)) → ((Nat → Int32)) → ((Nat → Int32)) → Prop) (Q_44 : Int32 → Int32 → Int32 → Int32 → Int32 → Int32 → Int32 → Int32 → Int32 → ((Nat → Int32)) → ((Nat → Int32)) → ((Nat → Int32)) → Prop) (v3_72 : Int32) (v4_72 : Int32) (v5_72 : Int32) (v7_72 : Int32) (v8_72 : Int32) (v9_72 : Int32) (v10_72 : Int32) (v11_72 : Int32) (v12_72 : Int32) (v13_72 : Bool) (t0_72 : Bool) (g_72 : (Nat → Int32)) (m9_72 : (Nat → Int32)) (a9_72 : (Nat → Int32)) : Prop := if t0_72 = true then (if (g_72 10) ≤ 0 then (kL_hears_L105 w9 Q_12 Q_44 v3_72 v4_72 v5_72 v7_72 v8_72 v9_72 v10_72 v11_72 v12_72 (bz v13_72) t0_72 g_72 m9_72 a9_72) else ((kL_draw g_72 ((2 * (g_72 10)) + 1)) ∧ (bd (pL_draw g_72 ((2 * (g_72 10)) + 1)) fun (r52 : Int32) (u53 : (Nat → Int32)) => lt (r52 - (u53 10)) fun (x54 : Int32) => kL_hears_L105 w9 Q_12 Q_44 v3_72 v4_72 v5_72 v7_72 v8_72 v9_72 v10_72 v11_72 v12_72 x54 t0_72 u53 m9_72 a9_72))) else (kL_hears_L105 w9 Q_12 Q_44 v3_72 v4_72 v5_72 v7_72 v8_72 v9_72 v10_72 v11_72 v12_72 (bz v13_72) t0_72 g_72 m9_72 a9_72)
noncomputable def bL_hears_L44 (w9 : (Nat → Int32)) (q_12 : Int32 → Int32 → Int32 → Int32 → Int32 → ((Nat → Int32)) → ((Nat → Int32)) → ((Nat → Int32)) → (Int32 × (Nat → Int32) × (Nat → Int32))) (q_44 : Int32 → Int32 → Int32 → Int32 → Int32 → Int32 → Int32 → Int32 → Int32 → ((Nat → Int32)) → ((Nat → Int32)) → ((Nat → Int32)) → (Int32 × (Nat → Int32) × (Nat → Int32))) (v3_44 : Int32) (v4_44 : Int32) (v5_44 : Int32) (v7_44 : Int32) (v8_44 : Int32) (v9_44 : Int32) (v10_44 : Int32) (v11_44 : Int32) (v12_44 : Int32) (g_44 : (Nat → Int32)) (m9_44 : (Nat → Int32)) (a9_44 : (Nat → Int32)) : Int32 × (Nat → Int32) × (Nat → Int32) := if v9_44 ≤ v12_44 then (if 0 ≤ v10_44 then (pL_hears_L237 w9 q_12 v3_44 v4_44 v5_44 v7_44 v8_44 v10_44 v11_44 ((10 * v8_44) + 4) true g_44 m9_44 a9_44) else (pL_hears_L237 w9 q_12 v3_44 v4_44 v5_44 v7_44 v8_44 v10_44 v11_44 ((10 * v8_44) + 4) false g_44 m9_44 a9_44)) else (bd (pL_draw g_44 100) fun (r32 : Int32) (u33 : (Nat → Int32)) => if r32 < (u33 9) then (pL_hears_L72 w9 q_12 q_44 v3_44 v4_44 v5_44 v7_44 v8_44 v9_44 v10_44 v11_44 v12_44 false false u33 m9_44 a9_44) else (pL_hears_L72 w9 q_12 q_44 v3_44 v4_44 v5_44 v7_44 v8_44 v9_44 v10_44 v11_44 v12_44 false true u33 m9_44 a9_44))
noncomputable def pL_hears_L44 (w9 : (Nat → Int32)) (q_12 : Int32 → Int32 → Int32 → Int32 → Int32 → ((Nat → Int32)) → ((Nat → Int32)) → ((Nat → Int32)) → (Int32 × (Nat → Int32) × (Nat → Int32))) : Nat → Int32 → Int32 → Int32 → Int32 → Int32 → Int32 → Int32 → Int32 → Int32 → ((Nat → Int32)) → ((Nat → Int32)) → ((Nat → Int32)) → (Int32 × (Nat → Int32) × (Nat → Int32))
  | 0 => fun _ _ _ _ _ _ _ _ _ g_44 m9_44 a9_44 => (0, g_44, m9_44)
  | n + 1 => bL_hears_L44 w9 q_12 (pL_hears_L44 w9 q_12 n)
def kbL_hears_L44 (w9 : (Nat → Int32)) (Q_12 : Int32 → Int32 → Int32 → Int32 → Int32 → ((Nat → Int32)) → ((Nat → Int32)) → ((Nat → Int32)) → Prop) (Q_44 : Int32 → Int32 → Int32 → Int32 → Int32 → Int32 → Int32 → Int32 → Int32 → ((Nat → Int32)) → ((Nat → Int32)) → ((Nat → Int32)) → Prop) (v3_44 : Int32) (v4_44 : Int32) (v5_44 : Int32) (v7_44 : Int32) (v8_44 : Int32) (v9_44 : Int32) (v10_44 : Int32) (v11_44 : Int32) (v12_44 : Int32) (g_44 : (Nat → Int32)) (m9_44 : (Nat → Int32)) (a9_44 : (Nat → Int32)) : Prop := if v9_44 ≤ v12_44 then (if 0 ≤ v10_44 then (kL_hears_L237 w9 Q_12 v3_44 v4_44 v5_44 v7_44 v8_44 v10_44 v11_44 ((10 * v8_44) + 4) true g_44 m9_44 a9_44) else (kL_hears_L237 w9 Q_12 v3_44 v4_44 v5_44 v7_44 v8_44 v10_44 v11_44 ((10 * v8_44) + 4) false g_44 m9_44 a9_44)) else ((kL_draw g_44 100) ∧ (bd (pL_draw g_44 100) fun (r32 : Int32) (u33 : (Nat → Int32)) => if r32 < (u33 9) then (kL_hears_L72 w9 Q_12 Q_44 v3_44 v4_44 v5_44 v7_44 v8_44 v9_44 v10_44 v11_44 v12_44 false false u33 m9_44 a9_44) else (kL_hears_L72 w9 Q_12 Q_44 v3_44 v4_44 v5_44 v7_44 v8_44 v9_44 v10_44 v11_44 v12_44 false true u33 m9_44 a9_44)))
noncomputable def kL_hears_L44 (w9 : (Nat → Int32)) (Q_12 : Int32 → Int32 → Int32 → Int32 → Int32 → ((Nat → Int32)) → ((Nat → Int32)) → ((Nat → Int32)) → Prop) : Nat → Int32 → Int32 → Int32 → Int32 → Int32 → Int32 → Int32 → Int32 → Int32 → ((Nat → Int32)) → ((Nat → Int32)) → ((Nat → Int32)) → Prop
  | 0 => fun _ _ _ _ _ _ _ _ _ _ _ _ => False
  | n + 1 => kbL_hears_L44 w9 Q_12 (kL_hears_L44 w9 Q_12 n)
noncomputable def bL_hears_L12 (w9 : (Nat → Int32))  (q_12 : Int32 → Int32 → Int32 → Int32 → Int32 → ((Nat → Int32)) → ((Nat → Int32)) → ((Nat → Int32)) → (Int32 × (Nat → Int32) × (Nat → Int32))) (v3_12 : Int32) (v4_12 : Int32) (v5_12 : Int32) (v7_12 : Int32) (v8_12 : Int32) (g_12 : (Nat → Int32)) (m9_12 : (Nat → Int32)) (a9_12 : (Nat → Int32)) : Int32 × (Nat → Int32) × (Nat → Int32) := if (g_12 2) ≤ v8_12 then (lt ((upd g_12 5 ((g_12 5) + 1))) fun (g_2 : (Nat → Int32)) => (v7_12, g_2, m9_12)) else (bd (pL_lists g_12 m9_12 w9 a9_12 v3_12 v4_12 v8_12) fun (r4 : Int32) (u5 : (Nat → Int32)) => pL_hears_L44 w9 q_12 fu v3_12 v4_12 v5_12 v7_12 v8_12 r4 (-1) 0 0 g_12 m9_12 u5)
noncomputable def pL_hears_L12 (w9 : (Nat → Int32))  : Nat → Int32 → Int32 → Int32 → Int32 → Int32 → ((Nat → Int32)) → ((Nat → Int32)) → ((Nat → Int32)) → (Int32 × (Nat → Int32) × (Nat → Int32))
  | 0 => fun _ _ _ _ _ g_12 m9_12 a9_12 => (0, g_12, m9_12)
  | n + 1 => bL_hears_L12 w9  (pL_hears_L12 w9  n)
def kbL_hears_L12 (w9 : (Nat → Int32))  (Q_12 : Int32 → Int32 → Int32 → Int32 → Int32 → ((Nat → Int32)) → ((Nat → Int32)) → ((Nat → Int32)) → Prop) (v3_12 : Int32) (v4_12 : Int32) (v5_12 : Int32) (v7_12 : Int32) (v8_12 : Int32) (g_12 : (Nat → Int32)) (m9_12 : (Nat → Int32)) (a9_12 : (Nat → Int32)) : Prop := if (g_12 2) ≤ v8_12 then (True) else ((kL_lists g_12 m9_12 w9 a9_12 v3_12 v4_12 v8_12) ∧ (bd (pL_lists g_12 m9_12 w9 a9_12 v3_12 v4_12 v8_12) fun (r4 : Int32) (u5 : (Nat → Int32)) => kL_hears_L44 w9 Q_12 fu v3_12 v4_12 v5_12 v7_12 v8_12 r4 (-1) 0 0 g_12 m9_12 u5))
noncomputable def kL_hears_L12 (w9 : (Nat → Int32))  : Nat → Int32 → Int32 → Int32 → Int32 → Int32 → ((Nat → Int32)) → ((Nat → Int32)) → ((Nat → Int32)) → Prop
  | 0 => fun _ _ _ _ _ _ _ _ => False
  | n + 1 => kbL_hears_L12 w9  (kL_hears_L12 w9  n)
noncomputable def pL_hears (g : (Nat → Int32)) (m9 : (Nat → Int32)) (w9 : (Nat → Int32)) (a4 : Int32) (a5 : Int32) (a6 : Int32) : Int32 × (Nat → Int32) × (Nat → Int32) := pL_hears_L12 w9 fu a4 a5 a6 0 0 g m9 (fun _ : Nat => (0 : Int32))
def kL_hears (g : (Nat → Int32)) (m9 : (Nat → Int32)) (w9 : (Nat → Int32)) (a4 : Int32) (a5 : Int32) (a6 : Int32) : Prop := kL_hears_L12 w9 fu a4 a5 a6 0 0 g m9 (fun _ : Nat => (0 : Int32))
abbrev rL_hears : Room := { frames := 3, cells := 1, slots := 60, locals := 95 }
set_option maxHeartbeats 4000000 in
set_option maxRecDepth 100000 in
theorem mL_hears (l : Launch) (dC : Nat → ClassId) (dI : Nat → Nat → Nat) (cI cB cO cL : ClassId) (qg : Nat → Nat) (qm : Nat → Nat) (qw : Nat → Nat) (g : (Nat → Int32)) (m9 : (Nat → Int32)) (w9 : (Nat → Int32)) (a4 : Int32) (a5 : Int32) (a6 : Int32) (sz : Nat) (hI : gD (fun _ => True) (ia1 qg ++ ia1 qm ++ ia1 qw)) (hok : kL_hears g m9 w9 a4 a5 a6) : Met l yL_hears wsL_hears rL_hears (nP sz (dC, dI) (tYS cI cB cO cL) (ia14 qg cI g ++ ia40 qm cI m9 ++ ia24 qw cI w9) [.ref (qg 0), .ref (qm 0), .ref (qw 0), .int a4, .int a5, .int a6]) (gQi (dC, dI) (fun z9 : (Nat → Int32) × (Nat → Int32) => ia14 qg cI z9.1 ++ ia40 qm cI z9.2 ++ ia24 qw cI w9) (va_A (ia14 qg cI g ++ ia40 qm cI m9 ++ ia24 qw cI w9) sz) (pL_hears g m9 w9 a4 a5 a6)) 1 60 (va_A (ia14 qg cI g ++ ia40 qm cI m9 ++ ia24 qw cI w9) sz) := by
  refine nMet (cc := cL_hears) (maxL := 16) (ret := some .int) [(0, .ref (qg 0)), (1, .ref (qm 0)), (2, .ref (qw 0)), (3, .int a4), (4, .int a5), (5, .int a6)] (by decide) rfl rfl rfl ?_
  intro p e s mi below meth c C0 hz hK hP ls hl
  obtain ⟨hx, hb, hr, hml, hown, hts, hlocks⟩ := id C0
  have hown : s.vm.findClass RL = some mi.cls := hown
  subst hz
  have hA0 : ∀ q : Nat, s.heap.size ≤ q → (va_A (ia14 qg cI g ++ ia40 qm cI m9 ++ ia24 qw cI w9) s.heap.size) q := fun q h => Or.inr h
  have hS : va_S (va_A (ia14 qg cI g ++ ia40 qm cI m9 ++ ia24 qw cI w9) s.heap.size) s.heap s.heap [] := va_S.rf
  have hD0 : gD (va_A (ia14 qg cI g ++ ia40 qm cI m9 ++ ia24 qw cI w9) s.heap.size) (ia1 qg ++ ia1 qm ++ ia1 qw) := gD_vA (ws := ia14 qg cI g ++ ia40 qm cI m9 ++ ia24 qw cI w9) hI
  have hP : va_P (dC, dI) vwCl (ia14 qg cI g ++ ia40 qm cI m9 ++ ia24 qw cI w9) s.heap := hP
  obtain ⟨F, hF⟩ : ∃ F, F = pL_hears g m9 w9 a4 a5 a6 := ⟨_, rfl⟩
  have hf := hF
  have cn23 := hts (.constant RL 23 (-1000000000)) (by decide +kernel)
  refine lv_bipush (v := 60) hx hb dL_hears_0 (by decide) ?_
  refine g_newi hx hb (hts (.arrayClass .int) (by decide +kernel)) hK hP (gD_va hD0 rfl) hS hA0 0 rfl (by decide) rfl (by decide) (Nat.le_of_ble_eq_true rfl) (Nat.le_of_ble_eq_true rfl) dL_hears_2 (fun z9 H hP hDz hS => ?_)
  obtain ⟨qa, eqa⟩ : ∃ qa : Nat → Nat, qa 0 = z9 := ⟨fun _ => z9, rfl⟩
  rw [← eqa] at hP hDz ⊢
  have hD : gD (va_A (ia14 qg cI g ++ ia40 qm cI m9 ++ ia24 qw cI w9) s.heap.size) (ia1 qg ++ ia1 qm ++ ia1 qw ++ ia1 qa) := gD_w hDz
  have hP : va_P (dC, dI) vwCl (ia14 qg cI g ++ ia40 qm cI m9 ++ ia24 qw cI w9 ++ ia60 qa cI (fun _ : Nat => (0 : Int32))) H := hP
  refine lv_astore (lv' := [(6, .ref (qa 0)), (0, .ref (qg 0)), (1, .ref (qm 0)), (2, .ref (qw 0)), (3, .int a4), (4, .int a5), (5, .int a6)]) hx hb dL_hears_4 hl (by decide) rfl (fun ls hl => ?_)
  have J_12 : ∀ (n_12 : Nat) (v3_12 : Int32) (v4_12 : Int32) (v5_12 : Int32) (v7_12 : Int32) (v8_12 : Int32) (g_12 : (Nat → Int32)) (m9_12 : (Nat → Int32)) (a9_12 : (Nat → Int32)) (H : Heap) (locs : List Loc), va_P (dC, dI) vwCl (ia14 qg cI g_12 ++ ia40 qm cI m9_12 ++ ia24 qw cI w9 ++ ia60 qa cI a9_12) H → va_S (va_A (ia14 qg cI g ++ ia40 qm cI m9 ++ ia24 qw cI w9) s.heap.size) s.heap H locs → ∀ ls : Array Slot, lv_has ls 16 [(0, .ref (qg 0)), (1, .ref (qm 0)), (2, .ref (qw 0)), (3, .int v3_12), (4, .int v4_12), (5, .int v5_12), (6, .ref (qa 0)), (7, .int v7_12), (8, .int v8_12)] → F = pL_hears_L12 w9 n_12 v3_12 v4_12 v5_12 v7_12 v8_12 g_12 m9_12 a9_12 → kL_hears_L12 w9 n_12 v3_12 v4_12 v5_12 v7_12 v8_12 g_12 m9_12 a9_12 → W p l e rL_hears s mi ([.ref (qg 0), .ref (qm 0), .ref (qw 0), .int a4, .int a5, .int a6] : List Value).toArray below meth c H locs 1 60 (MQ below (gQi (dC, dI) (fun z9 : (Nat → Int32) × (Nat → Int32) => ia14 qg cI z9.1 ++ ia40 qm cI z9.2 ++ ia24 qw cI w9) (va_A (ia14 qg cI g ++ ia40 qm cI m9 ++ ia24 qw cI w9) s.heap.size) (pL_hears g m9 w9 a4 a5 a6)) ([.ref (qg 0), .ref (qm 0), .ref (qw 0), .int a4, .int a5, .int a6] : List Value).toArray s 1 60 (va_A (ia14 qg cI g ++ ia40 qm cI m9 ++ ia24 qw cI w9) s.heap.size)) (F0 mi 12 ls []) := by
    intro n_12
    induction n_12 with
    | zero =>
      intro v3_12 v4_12 v5_12 v7_12 v8_12 g_12 m9_12 a9_12 H locs hP hS ls hl hf hok
      exact absurd hok (fun h => h)
    | succ n_12 ih_12 =>
      have J_375 : ∀ (v3_375 : Int32) (v4_375 : Int32) (v5_375 : Int32) (v8_375 : Int32) (t0_375 : Int32) (t1_375 : Bool) (g_375 : (Nat → Int32)) (m9_375 : (Nat → Int32)) (a9_375 : (Nat → Int32)) (H : Heap) (locs : List Loc), va_P (dC, dI) vwCl (ia14 qg cI g_375 ++ ia40 qm cI m9_375 ++ ia24 qw cI w9 ++ ia60 qa cI a9_375) H → va_S (va_A (ia14 qg cI g ++ ia40 qm cI m9 ++ ia24 qw cI w9) s.heap.size) s.heap H locs → ∀ ls : Array Slot, lv_has ls 16 [(0, .ref (qg 0)), (1, .ref (qm 0)), (2, .ref (qw 0)), (3, .int v3_375), (4, .int v4_375), (5, .int v5_375), (6, .ref (qa 0)), (8, .int v8_375)] → F = pL_hears_L375 w9 (pL_hears_L12 w9 n_12) v3_375 v4_375 v5_375 v8_375 t0_375 t1_375 g_375 m9_375 a9_375 → kL_hears_L375 w9 (kL_hears_L12 w9 n_12) v3_375 v4_375 v5_375 v8_375 t0_375 t1_375 g_375 m9_375 a9_375 → W p l e rL_hears s mi ([.ref (qg 0), .ref (qm 0), .ref (qw 0), .int a4, .int a5, .int a6] : List Value).toArray below meth c H locs 1 60 (MQ below (gQi (dC, dI) (fun z9 : (Nat → Int32) × (Nat → Int32) => ia14 qg cI z9.1 ++ ia40 qm cI z9.2 ++ ia24 qw cI w9) (va_A (ia14 qg cI g ++ ia40 qm cI m9 ++ ia24 qw cI w9) s.heap.size) (pL_hears g m9 w9 a4 a5 a6)) ([.ref (qg 0), .ref (qm 0), .ref (qw 0), .int a4, .int a5, .int a6] : List Value).toArray s 1 60 (va_A (ia14 qg cI g ++ ia40 qm cI m9 ++ ia24 qw cI w9) s.heap.size)) (F0 mi 375 ls [.int (bz t1_375), .int t0_375]) := by
        intro v3_375 v4_375 v5_375 v8_375 t0_375 t1_375 g_375 m9_375 a9_375 H locs hP hS ls hl hf hok
        refine lv_iadd hx hb dL_hears_375 ?_
        refine lv_topi (fun x25 ex25 => ?_)
        have hf := lt_eq ex25 hf
        have hok := lt_ok ex25 hok
        refine lv_istore (lv' := [(7, .int x25), (0, .ref (qg 0)), (1, .ref (qm 0)), (2, .ref (qw 0)), (3, .int v3_375), (4, .int v4_375), (5, .int v5_375), (6, .ref (qa 0)), (8, .int v8_375)]) hx hb dL_hears_376 hl (by decide) rfl (fun ls hl => ?_)
        obtain ⟨x26, ex26⟩ : ∃ y : Int32, y = v8_375 + 1 := ⟨_, rfl⟩
        refine lv_iinc (v := x26) (lv' := [(8, .int x26), (7, .int x25), (0, .ref (qg 0)), (1, .ref (qm 0)), (2, .ref (qw 0)), (3, .int v3_375), (4, .int v4_375), (5, .int v5_375), (6, .ref (qa 0))]) hx hb dL_hears_378 hl (k := 8) rfl (by rw [ex26]; rfl) (by decide) rfl (fun ls hl => ?_)
        have hf := lt_eq ex26 hf
        have hok := lt_ok ex26 hok
        refine lv_goto (tgt := 12) hx hb dL_hears_381 (by decide) ?_
        exact ih_12 v3_375 v4_375 v5_375 x25 x26 g_375 m9_375 a9_375 _ _ hP hS _ (lv_sub hl [2, 3, 4, 5, 6, 7, 8, 1, 0] rfl) hf hok
      have J_362 : ∀ (v3_362 : Int32) (v4_362 : Int32) (v5_362 : Int32) (v7_362 : Int32) (v8_362 : Int32) (v10_362 : Int32) (t1_362 : Int32) (t2_362 : Int32) (g_362 : (Nat → Int32)) (m9_362 : (Nat → Int32)) (a9_362 : (Nat → Int32)) (H : Heap) (locs : List Loc), va_P (dC, dI) vwCl (ia14 qg cI g_362 ++ ia40 qm cI m9_362 ++ ia24 qw cI w9 ++ ia60 qa cI a9_362) H → va_S (va_A (ia14 qg cI g ++ ia40 qm cI m9 ++ ia24 qw cI w9) s.heap.size) s.heap H locs → ∀ ls : Array Slot, lv_has ls 16 [(0, .ref (qg 0)), (1, .ref (qm 0)), (2, .ref (qw 0)), (3, .int v3_362), (4, .int v4_362), (5, .int v5_362), (6, .ref (qa 0)), (7, .int v7_362), (8, .int v8_362), (10, .int v10_362)] → F = pL_hears_L362 w9 (pL_hears_L12 w9 n_12) v3_362 v4_362 v5_362 v7_362 v8_362 v10_362 t1_362 t2_362 g_362 m9_362 a9_362 → kL_hears_L362 w9 (kL_hears_L12 w9 n_12) v3_362 v4_362 v5_362 v7_362 v8_362 v10_362 t1_362 t2_362 g_362 m9_362 a9_362 → W p l e rL_hears s mi ([.ref (qg 0), .ref (qm 0), .ref (qw 0), .int a4, .int a5, .int a6] : List Value).toArray below meth c H locs 1 60 (MQ below (gQi (dC, dI) (fun z9 : (Nat → Int32) × (Nat → Int32) => ia14 qg cI z9.1 ++ ia40 qm cI z9.2 ++ ia24 qw cI w9) (va_A (ia14 qg cI g ++ ia40 qm cI m9 ++ ia24 qw cI w9) s.heap.size) (pL_hears g m9 w9 a4 a5 a6)) ([.ref (qg 0), .ref (qm 0), .ref (qw 0), .int a4, .int a5, .int a6] : List Value).toArray s 1 60 (va_A (ia14 qg cI g ++ ia40 qm cI m9 ++ ia24 qw cI w9) s.heap.size)) (F0 mi 362 ls [.int t2_362, .int t1_362, .ref (qm 0)]) := by
        intro v3_362 v4_362 v5_362 v7_362 v8_362 v10_362 t1_362 t2_362 g_362 m9_362 a9_362 H locs hP hS ls hl hf hok
        obtain ⟨h22, hok⟩ := hok
        refine va_iast (D := (dC, dI)) (tys := (tYS cI cB cO cL)) hx hb hK hP (gD_va hD rfl) hS 1 0 rfl rfl h22 dL_hears_362 (fun H locs hP _ hS => ?_)
        obtain ⟨m9_23, em9_23⟩ : ∃ z9 : (Nat → Int32), z9 = (upd m9_362 t1_362.toNatClampNeg t2_362) := ⟨_, rfl⟩
        have hP : va_P (dC, dI) vwCl (ia14 qg cI g_362 ++ ia40 qm cI m9_23 ++ ia24 qw cI w9 ++ ia60 qa cI a9_362) H := by rw [em9_23]; exact hP
        have hf := lt_eq em9_23 hf
        have hok := lt_ok em9_23 hok
        refine lv_iload hx hb dL_hears_363 (lv_at hl 7 rfl) ?_
        refine lv_iload hx hb dL_hears_365 (lv_at hl 9 rfl) ?_
        refine lv_if_ge (tgt := 374) hx hb dL_hears_367 (by decide) (fun c24 => ?_) (fun c24 => ?_)
        · have hf := it_eq c24 hf
          have hok := it_ok c24 hok
          refine lv_iconst (v := 1) hx hb dL_hears_374 (by decide) ?_
          exact J_375 v3_362 v4_362 v5_362 v8_362 v7_362 true g_362 m9_23 a9_362 _ _ hP hS _ (lv_sub hl [0, 1, 2, 3, 4, 5, 6, 8] rfl) hf hok
        · have hf := ie_eq c24 hf
          have hok := ie_ok c24 hok
          refine lv_iconst (v := 0) hx hb dL_hears_370 (by decide) ?_
          refine lv_goto (tgt := 375) hx hb dL_hears_371 (by decide) ?_
          exact J_375 v3_362 v4_362 v5_362 v8_362 v7_362 false g_362 m9_23 a9_362 _ _ hP hS _ (lv_sub hl [0, 1, 2, 3, 4, 5, 6, 8] rfl) hf hok
      have J_333 : ∀ (v3_333 : Int32) (v4_333 : Int32) (v5_333 : Int32) (v7_333 : Int32) (v8_333 : Int32) (v10_333 : Int32) (t1_333 : Int32) (t2_333 : Int32) (g_333 : (Nat → Int32)) (m9_333 : (Nat → Int32)) (a9_333 : (Nat → Int32)) (H : Heap) (locs : List Loc), va_P (dC, dI) vwCl (ia14 qg cI g_333 ++ ia40 qm cI m9_333 ++ ia24 qw cI w9 ++ ia60 qa cI a9_333) H → va_S (va_A (ia14 qg cI g ++ ia40 qm cI m9 ++ ia24 qw cI w9) s.heap.size) s.heap H locs → ∀ ls : Array Slot, lv_has ls 16 [(0, .ref (qg 0)), (1, .ref (qm 0)), (2, .ref (qw 0)), (3, .int v3_333), (4, .int v4_333), (5, .int v5_333), (6, .ref (qa 0)), (7, .int v7_333), (8, .int v8_333), (10, .int v10_333)] → F = pL_hears_L333 w9 (pL_hears_L12 w9 n_12) v3_333 v4_333 v5_333 v7_333 v8_333 v10_333 t1_333 t2_333 g_333 m9_333 a9_333 → kL_hears_L333 w9 (kL_hears_L12 w9 n_12) v3_333 v4_333 v5_333 v7_333 v8_333 v10_333 t1_333 t2_333 g_333 m9_333 a9_333 → W p l e rL_hears s mi ([.ref (qg 0), .ref (qm 0), .ref (qw 0), .int a4, .int a5, .int a6] : List Value).toArray below meth c H locs 1 60 (MQ below (gQi (dC, dI) (fun z9 : (Nat → Int32) × (Nat → Int32) => ia14 qg cI z9.1 ++ ia40 qm cI z9.2 ++ ia24 qw cI w9) (va_A (ia14 qg cI g ++ ia40 qm cI m9 ++ ia24 qw cI w9) s.heap.size) (pL_hears g m9 w9 a4 a5 a6)) ([.ref (qg 0), .ref (qm 0), .ref (qw 0), .int a4, .int a5, .int a6] : List Value).toArray s 1 60 (va_A (ia14 qg cI g ++ ia40 qm cI m9 ++ ia24 qw cI w9) s.heap.size)) (F0 mi 333 ls [.int t2_333, .int t1_333, .ref (qm 0)]) := by
        intro v3_333 v4_333 v5_333 v7_333 v8_333 v10_333 t1_333 t2_333 g_333 m9_333 a9_333 H locs hP hS ls hl hf hok
        obtain ⟨h19, hok⟩ := hok
        refine va_iast (D := (dC, dI)) (tys := (tYS cI cB cO cL)) hx hb hK hP (gD_va hD rfl) hS 1 0 rfl rfl h19 dL_hears_333 (fun H locs hP _ hS => ?_)
        obtain ⟨m9_20, em9_20⟩ : ∃ z9 : (Nat → Int32), z9 = (upd m9_333 t1_333.toNatClampNeg t2_333) := ⟨_, rfl⟩
        have hP : va_P (dC, dI) vwCl (ia14 qg cI g_333 ++ ia40 qm cI m9_20 ++ ia24 qw cI w9 ++ ia60 qa cI a9_333) H := by rw [em9_20]; exact hP
        have hf := lt_eq em9_20 hf
        have hok := lt_ok em9_20 hok
        refine lv_aload_n hx hb dL_hears_334 rfl (lv_at hl 1 rfl) ?_
        refine lv_bipush (v := 10) hx hb dL_hears_335 (by decide) ?_
        refine lv_iload hx hb dL_hears_337 (lv_at hl 8 rfl) ?_
        refine lv_imul hx hb dL_hears_339 ?_
        refine lv_bipush (v := 9) hx hb dL_hears_340 (by decide) ?_
        refine lv_iadd hx hb dL_hears_342 ?_
        refine lv_iload hx hb dL_hears_343 (lv_at hl 9 rfl) ?_
        refine lv_if_ge (tgt := 353) hx hb dL_hears_345 (by decide) (fun c21 => ?_) (fun c21 => ?_)
        · have hf := it_eq c21 hf
          have hok := it_ok c21 hok
          refine lv_aload hx hb dL_hears_353 (lv_at hl 6 rfl) ?_
          refine lv_iconst (v := 5) hx hb dL_hears_355 (by decide) ?_
          refine lv_iload hx hb dL_hears_356 (lv_at hl 9 rfl) ?_
          refine lv_imul hx hb dL_hears_358 ?_
          refine lv_iconst (v := 4) hx hb dL_hears_359 (by decide) ?_
          refine lv_iadd hx hb dL_hears_360 ?_
          obtain ⟨h27, hok⟩ := hok
          refine va_iald (D := (dC, dI)) (tys := (tYS cI cB cO cL)) hx hb hK hP 3 0 rfl rfl h27 dL_hears_361 ?_
          exact J_362 v3_333 v4_333 v5_333 v7_333 v8_333 v10_333 ((10 * v8_333) + 9) (a9_333 (((5 * v10_333) + 4).toNatClampNeg)) g_333 m9_20 a9_333 _ _ hP hS _ (lv_sub hl [0, 1, 2, 3, 4, 5, 6, 7, 8, 9] rfl) hf hok
        · have hf := ie_eq c21 hf
          have hok := ie_ok c21 hok
          refine lv_ldc (v := (-1000000000)) hx hb hown cn23 dL_hears_348 ?_
          refine lv_goto (tgt := 362) hx hb dL_hears_350 (by decide) ?_
          exact J_362 v3_333 v4_333 v5_333 v7_333 v8_333 v10_333 ((10 * v8_333) + 9) (-1000000000) g_333 m9_20 a9_333 _ _ hP hS _ (lv_sub hl [0, 1, 2, 3, 4, 5, 6, 7, 8, 9] rfl) hf hok
      have J_304 : ∀ (v3_304 : Int32) (v4_304 : Int32) (v5_304 : Int32) (v7_304 : Int32) (v8_304 : Int32) (v10_304 : Int32) (t1_304 : Int32) (t2_304 : Int32) (g_304 : (Nat → Int32)) (m9_304 : (Nat → Int32)) (a9_304 : (Nat → Int32)) (H : Heap) (locs : List Loc), va_P (dC, dI) vwCl (ia14 qg cI g_304 ++ ia40 qm cI m9_304 ++ ia24 qw cI w9 ++ ia60 qa cI a9_304) H → va_S (va_A (ia14 qg cI g ++ ia40 qm cI m9 ++ ia24 qw cI w9) s.heap.size) s.heap H locs → ∀ ls : Array Slot, lv_has ls 16 [(0, .ref (qg 0)), (1, .ref (qm 0)), (2, .ref (qw 0)), (3, .int v3_304), (4, .int v4_304), (5, .int v5_304), (6, .ref (qa 0)), (7, .int v7_304), (8, .int v8_304), (10, .int v10_304)] → F = pL_hears_L304 w9 (pL_hears_L12 w9 n_12) v3_304 v4_304 v5_304 v7_304 v8_304 v10_304 t1_304 t2_304 g_304 m9_304 a9_304 → kL_hears_L304 w9 (kL_hears_L12 w9 n_12) v3_304 v4_304 v5_304 v7_304 v8_304 v10_304 t1_304 t2_304 g_304 m9_304 a9_304 → W p l e rL_hears s mi ([.ref (qg 0), .ref (qm 0), .ref (qw 0), .int a4, .int a5, .int a6] : List Value).toArray below meth c H locs 1 60 (MQ below (gQi (dC, dI) (fun z9 : (Nat → Int32) × (Nat → Int32) => ia14 qg cI z9.1 ++ ia40 qm cI z9.2 ++ ia24 qw cI w9) (va_A (ia14 qg cI g ++ ia40 qm cI m9 ++ ia24 qw cI w9) s.heap.size) (pL_hears g m9 w9 a4 a5 a6)) ([.ref (qg 0), .ref (qm 0), .ref (qw 0), .int a4, .int a5, .int a6] : List Value).toArray s 1 60 (va_A (ia14 qg cI g ++ ia40 qm cI m9 ++ ia24 qw cI w9) s.heap.size)) (F0 mi 304 ls [.int t2_304, .int t1_304, .ref (qm 0)]) := by
        intro v3_304 v4_304 v5_304 v7_304 v8_304 v10_304 t1_304 t2_304 g_304 m9_304 a9_304 H locs hP hS ls hl hf hok
        obtain ⟨h16, hok⟩ := hok
        refine va_iast (D := (dC, dI)) (tys := (tYS cI cB cO cL)) hx hb hK hP (gD_va hD rfl) hS 1 0 rfl rfl h16 dL_hears_304 (fun H locs hP _ hS => ?_)
        obtain ⟨m9_17, em9_17⟩ : ∃ z9 : (Nat → Int32), z9 = (upd m9_304 t1_304.toNatClampNeg t2_304) := ⟨_, rfl⟩
        have hP : va_P (dC, dI) vwCl (ia14 qg cI g_304 ++ ia40 qm cI m9_17 ++ ia24 qw cI w9 ++ ia60 qa cI a9_304) H := by rw [em9_17]; exact hP
        have hf := lt_eq em9_17 hf
        have hok := lt_ok em9_17 hok
        refine lv_aload_n hx hb dL_hears_305 rfl (lv_at hl 1 rfl) ?_
        refine lv_bipush (v := 10) hx hb dL_hears_306 (by decide) ?_
        refine lv_iload hx hb dL_hears_308 (lv_at hl 8 rfl) ?_
        refine lv_imul hx hb dL_hears_310 ?_
        refine lv_bipush (v := 8) hx hb dL_hears_311 (by decide) ?_
        refine lv_iadd hx hb dL_hears_313 ?_
        refine lv_iload hx hb dL_hears_314 (lv_at hl 9 rfl) ?_
        refine lv_if_ge (tgt := 324) hx hb dL_hears_316 (by decide) (fun c18 => ?_) (fun c18 => ?_)
        · have hf := it_eq c18 hf
          have hok := it_ok c18 hok
          refine lv_aload hx hb dL_hears_324 (lv_at hl 6 rfl) ?_
          refine lv_iconst (v := 5) hx hb dL_hears_326 (by decide) ?_
          refine lv_iload hx hb dL_hears_327 (lv_at hl 9 rfl) ?_
          refine lv_imul hx hb dL_hears_329 ?_
          refine lv_iconst (v := 3) hx hb dL_hears_330 (by decide) ?_
          refine lv_iadd hx hb dL_hears_331 ?_
          obtain ⟨h28, hok⟩ := hok
          refine va_iald (D := (dC, dI)) (tys := (tYS cI cB cO cL)) hx hb hK hP 3 0 rfl rfl h28 dL_hears_332 ?_
          exact J_333 v3_304 v4_304 v5_304 v7_304 v8_304 v10_304 ((10 * v8_304) + 8) (a9_304 (((5 * v10_304) + 3).toNatClampNeg)) g_304 m9_17 a9_304 _ _ hP hS _ (lv_sub hl [0, 1, 2, 3, 4, 5, 6, 7, 8, 9] rfl) hf hok
        · have hf := ie_eq c18 hf
          have hok := ie_ok c18 hok
          refine lv_ldc (v := (-1000000000)) hx hb hown cn23 dL_hears_319 ?_
          refine lv_goto (tgt := 333) hx hb dL_hears_321 (by decide) ?_
          exact J_333 v3_304 v4_304 v5_304 v7_304 v8_304 v10_304 ((10 * v8_304) + 8) (-1000000000) g_304 m9_17 a9_304 _ _ hP hS _ (lv_sub hl [0, 1, 2, 3, 4, 5, 6, 7, 8, 9] rfl) hf hok
      have J_275 : ∀ (v3_275 : Int32) (v4_275 : Int32) (v5_275 : Int32) (v7_275 : Int32) (v8_275 : Int32) (v10_275 : Int32) (t1_275 : Int32) (t2_275 : Int32) (g_275 : (Nat → Int32)) (m9_275 : (Nat → Int32)) (a9_275 : (Nat → Int32)) (H : Heap) (locs : List Loc), va_P (dC, dI) vwCl (ia14 qg cI g_275 ++ ia40 qm cI m9_275 ++ ia24 qw cI w9 ++ ia60 qa cI a9_275) H → va_S (va_A (ia14 qg cI g ++ ia40 qm cI m9 ++ ia24 qw cI w9) s.heap.size) s.heap H locs → ∀ ls : Array Slot, lv_has ls 16 [(0, .ref (qg 0)), (1, .ref (qm 0)), (2, .ref (qw 0)), (3, .int v3_275), (4, .int v4_275), (5, .int v5_275), (6, .ref (qa 0)), (7, .int v7_275), (8, .int v8_275), (10, .int v10_275)] → F = pL_hears_L275 w9 (pL_hears_L12 w9 n_12) v3_275 v4_275 v5_275 v7_275 v8_275 v10_275 t1_275 t2_275 g_275 m9_275 a9_275 → kL_hears_L275 w9 (kL_hears_L12 w9 n_12) v3_275 v4_275 v5_275 v7_275 v8_275 v10_275 t1_275 t2_275 g_275 m9_275 a9_275 → W p l e rL_hears s mi ([.ref (qg 0), .ref (qm 0), .ref (qw 0), .int a4, .int a5, .int a6] : List Value).toArray below meth c H locs 1 60 (MQ below (gQi (dC, dI) (fun z9 : (Nat → Int32) × (Nat → Int32) => ia14 qg cI z9.1 ++ ia40 qm cI z9.2 ++ ia24 qw cI w9) (va_A (ia14 qg cI g ++ ia40 qm cI m9 ++ ia24 qw cI w9) s.heap.size) (pL_hears g m9 w9 a4 a5 a6)) ([.ref (qg 0), .ref (qm 0), .ref (qw 0), .int a4, .int a5, .int a6] : List Value).toArray s 1 60 (va_A (ia14 qg cI g ++ ia40 qm cI m9 ++ ia24 qw cI w9) s.heap.size)) (F0 mi 275 ls [.int t2_275, .int t1_275, .ref (qm 0)]) := by
        intro v3_275 v4_275 v5_275 v7_275 v8_275 v10_275 t1_275 t2_275 g_275 m9_275 a9_275 H locs hP hS ls hl hf hok
        obtain ⟨h13, hok⟩ := hok
        refine va_iast (D := (dC, dI)) (tys := (tYS cI cB cO cL)) hx hb hK hP (gD_va hD rfl) hS 1 0 rfl rfl h13 dL_hears_275 (fun H locs hP _ hS => ?_)
        obtain ⟨m9_14, em9_14⟩ : ∃ z9 : (Nat → Int32), z9 = (upd m9_275 t1_275.toNatClampNeg t2_275) := ⟨_, rfl⟩
        have hP : va_P (dC, dI) vwCl (ia14 qg cI g_275 ++ ia40 qm cI m9_14 ++ ia24 qw cI w9 ++ ia60 qa cI a9_275) H := by rw [em9_14]; exact hP
        have hf := lt_eq em9_14 hf
        have hok := lt_ok em9_14 hok
        refine lv_aload_n hx hb dL_hears_276 rfl (lv_at hl 1 rfl) ?_
        refine lv_bipush (v := 10) hx hb dL_hears_277 (by decide) ?_
        refine lv_iload hx hb dL_hears_279 (lv_at hl 8 rfl) ?_
        refine lv_imul hx hb dL_hears_281 ?_
        refine lv_bipush (v := 7) hx hb dL_hears_282 (by decide) ?_
        refine lv_iadd hx hb dL_hears_284 ?_
        refine lv_iload hx hb dL_hears_285 (lv_at hl 9 rfl) ?_
        refine lv_if_ge (tgt := 295) hx hb dL_hears_287 (by decide) (fun c15 => ?_) (fun c15 => ?_)
        · have hf := it_eq c15 hf
          have hok := it_ok c15 hok
          refine lv_aload hx hb dL_hears_295 (lv_at hl 6 rfl) ?_
          refine lv_iconst (v := 5) hx hb dL_hears_297 (by decide) ?_
          refine lv_iload hx hb dL_hears_298 (lv_at hl 9 rfl) ?_
          refine lv_imul hx hb dL_hears_300 ?_
          refine lv_iconst (v := 2) hx hb dL_hears_301 (by decide) ?_
          refine lv_iadd hx hb dL_hears_302 ?_
          obtain ⟨h29, hok⟩ := hok
          refine va_iald (D := (dC, dI)) (tys := (tYS cI cB cO cL)) hx hb hK hP 3 0 rfl rfl h29 dL_hears_303 ?_
          exact J_304 v3_275 v4_275 v5_275 v7_275 v8_275 v10_275 ((10 * v8_275) + 7) (a9_275 (((5 * v10_275) + 2).toNatClampNeg)) g_275 m9_14 a9_275 _ _ hP hS _ (lv_sub hl [0, 1, 2, 3, 4, 5, 6, 7, 8, 9] rfl) hf hok
        · have hf := ie_eq c15 hf
          have hok := ie_ok c15 hok
          refine lv_ldc (v := (-1000000000)) hx hb hown cn23 dL_hears_290 ?_
          refine lv_goto (tgt := 304) hx hb dL_hears_292 (by decide) ?_
          exact J_304 v3_275 v4_275 v5_275 v7_275 v8_275 v10_275 ((10 * v8_275) + 7) (-1000000000) g_275 m9_14 a9_275 _ _ hP hS _ (lv_sub hl [0, 1, 2, 3, 4, 5, 6, 7, 8, 9] rfl) hf hok
      have J_237 : ∀ (v3_237 : Int32) (v4_237 : Int32) (v5_237 : Int32) (v7_237 : Int32) (v8_237 : Int32) (v10_237 : Int32) (v11_237 : Int32) (t1_237 : Int32) (t2_237 : Bool) (g_237 : (Nat → Int32)) (m9_237 : (Nat → Int32)) (a9_237 : (Nat → Int32)) (H : Heap) (locs : List Loc), va_P (dC, dI) vwCl (ia14 qg cI g_237 ++ ia40 qm cI m9_237 ++ ia24 qw cI w9 ++ ia60 qa cI a9_237) H → va_S (va_A (ia14 qg cI g ++ ia40 qm cI m9 ++ ia24 qw cI w9) s.heap.size) s.heap H locs → ∀ ls : Array Slot, lv_has ls 16 [(0, .ref (qg 0)), (1, .ref (qm 0)), (2, .ref (qw 0)), (3, .int v3_237), (4, .int v4_237), (5, .int v5_237), (6, .ref (qa 0)), (7, .int v7_237), (8, .int v8_237), (10, .int v10_237), (11, .int v11_237)] → F = pL_hears_L237 w9 (pL_hears_L12 w9 n_12) v3_237 v4_237 v5_237 v7_237 v8_237 v10_237 v11_237 t1_237 t2_237 g_237 m9_237 a9_237 → kL_hears_L237 w9 (kL_hears_L12 w9 n_12) v3_237 v4_237 v5_237 v7_237 v8_237 v10_237 v11_237 t1_237 t2_237 g_237 m9_237 a9_237 → W p l e rL_hears s mi ([.ref (qg 0), .ref (qm 0), .ref (qw 0), .int a4, .int a5, .int a6] : List Value).toArray below meth c H locs 1 60 (MQ below (gQi (dC, dI) (fun z9 : (Nat → Int32) × (Nat → Int32) => ia14 qg cI z9.1 ++ ia40 qm cI z9.2 ++ ia24 qw cI w9) (va_A (ia14 qg cI g ++ ia40 qm cI m9 ++ ia24 qw cI w9) s.heap.size) (pL_hears g m9 w9 a4 a5 a6)) ([.ref (qg 0), .ref (qm 0), .ref (qw 0), .int a4, .int a5, .int a6] : List Value).toArray s 1 60 (va_A (ia14 qg cI g ++ ia40 qm cI m9 ++ ia24 qw cI w9) s.heap.size)) (F0 mi 237 ls [.int (bz t2_237), .int t1_237, .ref (qm 0)]) := by
        intro v3_237 v4_237 v5_237 v7_237 v8_237 v10_237 v11_237 t1_237 t2_237 g_237 m9_237 a9_237 H locs hP hS ls hl hf hok
        obtain ⟨h8, hok⟩ := hok
        refine va_iast (D := (dC, dI)) (tys := (tYS cI cB cO cL)) hx hb hK hP (gD_va hD rfl) hS 1 0 rfl rfl h8 dL_hears_237 (fun H locs hP _ hS => ?_)
        obtain ⟨m9_9, em9_9⟩ : ∃ z9 : (Nat → Int32), z9 = (upd m9_237 t1_237.toNatClampNeg (bz t2_237)) := ⟨_, rfl⟩
        have hP : va_P (dC, dI) vwCl (ia14 qg cI g_237 ++ ia40 qm cI m9_9 ++ ia24 qw cI w9 ++ ia60 qa cI a9_237) H := by rw [em9_9]; exact hP
        have hf := lt_eq em9_9 hf
        have hok := lt_ok em9_9 hok
        refine lv_aload_n hx hb dL_hears_238 rfl (lv_at hl 1 rfl) ?_
        refine lv_bipush (v := 10) hx hb dL_hears_239 (by decide) ?_
        refine lv_iload hx hb dL_hears_241 (lv_at hl 8 rfl) ?_
        refine lv_imul hx hb dL_hears_243 ?_
        refine lv_iconst (v := 5) hx hb dL_hears_244 (by decide) ?_
        refine lv_iadd hx hb dL_hears_245 ?_
        refine lv_iload hx hb dL_hears_246 (lv_at hl 10 rfl) ?_
        obtain ⟨h10, hok⟩ := hok
        refine va_iast (D := (dC, dI)) (tys := (tYS cI cB cO cL)) hx hb hK hP (gD_va hD rfl) hS 1 0 rfl rfl h10 dL_hears_248 (fun H locs hP _ hS => ?_)
        obtain ⟨m9_11, em9_11⟩ : ∃ z9 : (Nat → Int32), z9 = (upd m9_9 (((10 * v8_237) + 5).toNatClampNeg) v11_237) := ⟨_, rfl⟩
        have hP : va_P (dC, dI) vwCl (ia14 qg cI g_237 ++ ia40 qm cI m9_11 ++ ia24 qw cI w9 ++ ia60 qa cI a9_237) H := by rw [em9_11]; exact hP
        have hf := lt_eq em9_11 hf
        have hok := lt_ok em9_11 hok
        refine lv_aload_n hx hb dL_hears_249 rfl (lv_at hl 1 rfl) ?_
        refine lv_bipush (v := 10) hx hb dL_hears_250 (by decide) ?_
        refine lv_iload hx hb dL_hears_252 (lv_at hl 8 rfl) ?_
        refine lv_imul hx hb dL_hears_254 ?_
        refine lv_bipush (v := 6) hx hb dL_hears_255 (by decide) ?_
        refine lv_iadd hx hb dL_hears_257 ?_
        refine lv_iload hx hb dL_hears_258 (lv_at hl 9 rfl) ?_
        refine lv_if_ge (tgt := 268) hx hb dL_hears_260 (by decide) (fun c12 => ?_) (fun c12 => ?_)
        · have hf := it_eq c12 hf
          have hok := it_ok c12 hok
          refine lv_aload hx hb dL_hears_268 (lv_at hl 6 rfl) ?_
          refine lv_iconst (v := 5) hx hb dL_hears_270 (by decide) ?_
          refine lv_iload hx hb dL_hears_271 (lv_at hl 9 rfl) ?_
          refine lv_imul hx hb dL_hears_273 ?_
          obtain ⟨h30, hok⟩ := hok
          refine va_iald (D := (dC, dI)) (tys := (tYS cI cB cO cL)) hx hb hK hP 3 0 rfl rfl h30 dL_hears_274 ?_
          exact J_275 v3_237 v4_237 v5_237 v7_237 v8_237 v10_237 ((10 * v8_237) + 6) (a9_237 ((5 * v10_237).toNatClampNeg)) g_237 m9_11 a9_237 _ _ hP hS _ (lv_sub hl [0, 1, 2, 3, 4, 5, 6, 7, 8, 9] rfl) hf hok
        · have hf := ie_eq c12 hf
          have hok := ie_ok c12 hok
          refine lv_ldc (v := (-1000000000)) hx hb hown cn23 dL_hears_263 ?_
          refine lv_goto (tgt := 275) hx hb dL_hears_265 (by decide) ?_
          exact J_275 v3_237 v4_237 v5_237 v7_237 v8_237 v10_237 ((10 * v8_237) + 6) (-1000000000) g_237 m9_11 a9_237 _ _ hP hS _ (lv_sub hl [0, 1, 2, 3, 4, 5, 6, 7, 8, 9] rfl) hf hok
      have J_44 : ∀ (n_44 : Nat) (v3_44 : Int32) (v4_44 : Int32) (v5_44 : Int32) (v7_44 : Int32) (v8_44 : Int32) (v9_44 : Int32) (v10_44 : Int32) (v11_44 : Int32) (v12_44 : Int32) (g_44 : (Nat → Int32)) (m9_44 : (Nat → Int32)) (a9_44 : (Nat → Int32)) (H : Heap) (locs : List Loc), va_P (dC, dI) vwCl (ia14 qg cI g_44 ++ ia40 qm cI m9_44 ++ ia24 qw cI w9 ++ ia60 qa cI a9_44) H → va_S (va_A (ia14 qg cI g ++ ia40 qm cI m9 ++ ia24 qw cI w9) s.heap.size) s.heap H locs → ∀ ls : Array Slot, lv_has ls 16 [(0, .ref (qg 0)), (1, .ref (qm 0)), (2, .ref (qw 0)), (3, .int v3_44), (4, .int v4_44), (5, .int v5_44), (6, .ref (qa 0)), (7, .int v7_44), (8, .int v8_44), (9, .int v9_44), (10, .int v10_44), (11, .int v11_44), (12, .int v12_44)] → F = pL_hears_L44 w9 (pL_hears_L12 w9 n_12) n_44 v3_44 v4_44 v5_44 v7_44 v8_44 v9_44 v10_44 v11_44 v12_44 g_44 m9_44 a9_44 → kL_hears_L44 w9 (kL_hears_L12 w9 n_12) n_44 v3_44 v4_44 v5_44 v7_44 v8_44 v9_44 v10_44 v11_44 v12_44 g_44 m9_44 a9_44 → W p l e rL_hears s mi ([.ref (qg 0), .ref (qm 0), .ref (qw 0), .int a4, .int a5, .int a6] : List Value).toArray below meth c H locs 1 60 (MQ below (gQi (dC, dI) (fun z9 : (Nat → Int32) × (Nat → Int32) => ia14 qg cI z9.1 ++ ia40 qm cI z9.2 ++ ia24 qw cI w9) (va_A (ia14 qg cI g ++ ia40 qm cI m9 ++ ia24 qw cI w9) s.heap.size) (pL_hears g m9 w9 a4 a5 a6)) ([.ref (qg 0), .ref (qm 0), .ref (qw 0), .int a4, .int a5, .int a6] : List Value).toArray s 1 60 (va_A (ia14 qg cI g ++ ia40 qm cI m9 ++ ia24 qw cI w9) s.heap.size)) (F0 mi 44 ls []) := by
        intro n_44
        induction n_44 with
        | zero =>
          intro v3_44 v4_44 v5_44 v7_44 v8_44 v9_44 v10_44 v11_44 v12_44 g_44 m9_44 a9_44 H locs hP hS ls hl hf hok
          exact absurd hok (fun h => h)
        | succ n_44 ih_44 =>
          have J_213 : ∀ (v3_213 : Int32) (v4_213 : Int32) (v5_213 : Int32) (v7_213 : Int32) (v8_213 : Int32) (v9_213 : Int32) (v10_213 : Int32) (v11_213 : Int32) (v12_213 : Int32) (g_213 : (Nat → Int32)) (m9_213 : (Nat → Int32)) (a9_213 : (Nat → Int32)) (H : Heap) (locs : List Loc), va_P (dC, dI) vwCl (ia14 qg cI g_213 ++ ia40 qm cI m9_213 ++ ia24 qw cI w9 ++ ia60 qa cI a9_213) H → va_S (va_A (ia14 qg cI g ++ ia40 qm cI m9 ++ ia24 qw cI w9) s.heap.size) s.heap H locs → ∀ ls : Array Slot, lv_has ls 16 [(0, .ref (qg 0)), (1, .ref (qm 0)), (2, .ref (qw 0)), (3, .int v3_213), (4, .int v4_213), (5, .int v5_213), (6, .ref (qa 0)), (7, .int v7_213), (8, .int v8_213), (9, .int v9_213), (10, .int v10_213), (11, .int v11_213), (12, .int v12_213)] → F = pL_hears_L213 w9 (pL_hears_L12 w9 n_12) (pL_hears_L44 w9 (pL_hears_L12 w9 n_12) n_44) v3_213 v4_213 v5_213 v7_213 v8_213 v9_213 v10_213 v11_213 v12_213 g_213 m9_213 a9_213 → kL_hears_L213 w9 (kL_hears_L12 w9 n_12) (kL_hears_L44 w9 (kL_hears_L12 w9 n_12) n_44) v3_213 v4_213 v5_213 v7_213 v8_213 v9_213 v10_213 v11_213 v12_213 g_213 m9_213 a9_213 → W p l e rL_hears s mi ([.ref (qg 0), .ref (qm 0), .ref (qw 0), .int a4, .int a5, .int a6] : List Value).toArray below meth c H locs 1 60 (MQ below (gQi (dC, dI) (fun z9 : (Nat → Int32) × (Nat → Int32) => ia14 qg cI z9.1 ++ ia40 qm cI z9.2 ++ ia24 qw cI w9) (va_A (ia14 qg cI g ++ ia40 qm cI m9 ++ ia24 qw cI w9) s.heap.size) (pL_hears g m9 w9 a4 a5 a6)) ([.ref (qg 0), .ref (qm 0), .ref (qw 0), .int a4, .int a5, .int a6] : List Value).toArray s 1 60 (va_A (ia14 qg cI g ++ ia40 qm cI m9 ++ ia24 qw cI w9) s.heap.size)) (F0 mi 213 ls []) := by
            intro v3_213 v4_213 v5_213 v7_213 v8_213 v9_213 v10_213 v11_213 v12_213 g_213 m9_213 a9_213 H locs hP hS ls hl hf hok
            obtain ⟨x39, ex39⟩ : ∃ y : Int32, y = v12_213 + 1 := ⟨_, rfl⟩
            refine lv_iinc (v := x39) (lv' := [(12, .int x39), (0, .ref (qg 0)), (1, .ref (qm 0)), (2, .ref (qw 0)), (3, .int v3_213), (4, .int v4_213), (5, .int v5_213), (6, .ref (qa 0)), (7, .int v7_213), (8, .int v8_213), (9, .int v9_213), (10, .int v10_213), (11, .int v11_213)]) hx hb dL_hears_213 hl (k := 12) rfl (by rw [ex39]; rfl) (by decide) rfl (fun ls hl => ?_)
            have hf := lt_eq ex39 hf
            have hok := lt_ok ex39 hok
            refine lv_goto (tgt := 44) hx hb dL_hears_216 (by decide) ?_
            exact ih_44 v3_213 v4_213 v5_213 v7_213 v8_213 v9_213 v10_213 v11_213 x39 g_213 m9_213 a9_213 _ _ hP hS _ (lv_sub hl [1, 2, 3, 4, 5, 6, 7, 8, 9, 10, 11, 12, 0] rfl) hf hok
          have J_205 : ∀ (v3_205 : Int32) (v4_205 : Int32) (v5_205 : Int32) (v7_205 : Int32) (v8_205 : Int32) (v9_205 : Int32) (v12_205 : Int32) (v15_205 : Int32) (g_205 : (Nat → Int32)) (m9_205 : (Nat → Int32)) (a9_205 : (Nat → Int32)) (H : Heap) (locs : List Loc), va_P (dC, dI) vwCl (ia14 qg cI g_205 ++ ia40 qm cI m9_205 ++ ia24 qw cI w9 ++ ia60 qa cI a9_205) H → va_S (va_A (ia14 qg cI g ++ ia40 qm cI m9 ++ ia24 qw cI w9) s.heap.size) s.heap H locs → ∀ ls : Array Slot, lv_has ls 16 [(0, .ref (qg 0)), (1, .ref (qm 0)), (2, .ref (qw 0)), (3, .int v3_205), (4, .int v4_205), (5, .int v5_205), (6, .ref (qa 0)), (7, .int v7_205), (8, .int v8_205), (9, .int v9_205), (12, .int v12_205), (15, .int v15_205)] → F = pL_hears_L205 w9 (pL_hears_L12 w9 n_12) (pL_hears_L44 w9 (pL_hears_L12 w9 n_12) n_44) v3_205 v4_205 v5_205 v7_205 v8_205 v9_205 v12_205 v15_205 g_205 m9_205 a9_205 → kL_hears_L205 w9 (kL_hears_L12 w9 n_12) (kL_hears_L44 w9 (kL_hears_L12 w9 n_12) n_44) v3_205 v4_205 v5_205 v7_205 v8_205 v9_205 v12_205 v15_205 g_205 m9_205 a9_205 → W p l e rL_hears s mi ([.ref (qg 0), .ref (qm 0), .ref (qw 0), .int a4, .int a5, .int a6] : List Value).toArray below meth c H locs 1 60 (MQ below (gQi (dC, dI) (fun z9 : (Nat → Int32) × (Nat → Int32) => ia14 qg cI z9.1 ++ ia40 qm cI z9.2 ++ ia24 qw cI w9) (va_A (ia14 qg cI g ++ ia40 qm cI m9 ++ ia24 qw cI w9) s.heap.size) (pL_hears g m9 w9 a4 a5 a6)) ([.ref (qg 0), .ref (qm 0), .ref (qw 0), .int a4, .int a5, .int a6] : List Value).toArray s 1 60 (va_A (ia14 qg cI g ++ ia40 qm cI m9 ++ ia24 qw cI w9) s.heap.size)) (F0 mi 205 ls []) := by
            intro v3_205 v4_205 v5_205 v7_205 v8_205 v9_205 v12_205 v15_205 g_205 m9_205 a9_205 H locs hP hS ls hl hf hok
            refine lv_iload hx hb dL_hears_205 (lv_at hl 10 rfl) ?_
            refine lv_istore (lv' := [(10, .int v12_205), (0, .ref (qg 0)), (1, .ref (qm 0)), (2, .ref (qw 0)), (3, .int v3_205), (4, .int v4_205), (5, .int v5_205), (6, .ref (qa 0)), (7, .int v7_205), (8, .int v8_205), (9, .int v9_205), (12, .int v12_205), (15, .int v15_205)]) hx hb dL_hears_207 hl (by decide) rfl (fun ls hl => ?_)
            refine lv_iload hx hb dL_hears_209 (lv_at hl 12 rfl) ?_
            refine lv_istore (lv' := [(11, .int v15_205), (10, .int v12_205), (0, .ref (qg 0)), (1, .ref (qm 0)), (2, .ref (qw 0)), (3, .int v3_205), (4, .int v4_205), (5, .int v5_205), (6, .ref (qa 0)), (7, .int v7_205), (8, .int v8_205), (9, .int v9_205), (12, .int v12_205), (15, .int v15_205)]) hx hb dL_hears_211 hl (by decide) rfl (fun ls hl => ?_)
            exact J_213 v3_205 v4_205 v5_205 v7_205 v8_205 v9_205 v12_205 v15_205 v12_205 g_205 m9_205 a9_205 _ _ hP hS _ (lv_sub hl [2, 3, 4, 5, 6, 7, 8, 9, 10, 11, 1, 0, 12] rfl) hf hok
          have J_105 : ∀ (v3_105 : Int32) (v4_105 : Int32) (v5_105 : Int32) (v7_105 : Int32) (v8_105 : Int32) (v9_105 : Int32) (v10_105 : Int32) (v11_105 : Int32) (v12_105 : Int32) (v13_105 : Int32) (v14_105 : Bool) (g_105 : (Nat → Int32)) (m9_105 : (Nat → Int32)) (a9_105 : (Nat → Int32)) (H : Heap) (locs : List Loc), va_P (dC, dI) vwCl (ia14 qg cI g_105 ++ ia40 qm cI m9_105 ++ ia24 qw cI w9 ++ ia60 qa cI a9_105) H → va_S (va_A (ia14 qg cI g ++ ia40 qm cI m9 ++ ia24 qw cI w9) s.heap.size) s.heap H locs → ∀ ls : Array Slot, lv_has ls 16 [(0, .ref (qg 0)), (1, .ref (qm 0)), (2, .ref (qw 0)), (3, .int v3_105), (4, .int v4_105), (5, .int v5_105), (6, .ref (qa 0)), (7, .int v7_105), (8, .int v8_105), (9, .int v9_105), (10, .int v10_105), (11, .int v11_105), (12, .int v12_105), (13, .int v13_105), (14, .int (bz v14_105))] → F = pL_hears_L105 w9 (pL_hears_L12 w9 n_12) (pL_hears_L44 w9 (pL_hears_L12 w9 n_12) n_44) v3_105 v4_105 v5_105 v7_105 v8_105 v9_105 v10_105 v11_105 v12_105 v13_105 v14_105 g_105 m9_105 a9_105 → kL_hears_L105 w9 (kL_hears_L12 w9 n_12) (kL_hears_L44 w9 (kL_hears_L12 w9 n_12) n_44) v3_105 v4_105 v5_105 v7_105 v8_105 v9_105 v10_105 v11_105 v12_105 v13_105 v14_105 g_105 m9_105 a9_105 → W p l e rL_hears s mi ([.ref (qg 0), .ref (qm 0), .ref (qw 0), .int a4, .int a5, .int a6] : List Value).toArray below meth c H locs 1 60 (MQ below (gQi (dC, dI) (fun z9 : (Nat → Int32) × (Nat → Int32) => ia14 qg cI z9.1 ++ ia40 qm cI z9.2 ++ ia24 qw cI w9) (va_A (ia14 qg cI g ++ ia40 qm cI m9 ++ ia24 qw cI w9) s.heap.size) (pL_hears g m9 w9 a4 a5 a6)) ([.ref (qg 0), .ref (qm 0), .ref (qw 0), .int a4, .int a5, .int a6] : List Value).toArray s 1 60 (va_A (ia14 qg cI g ++ ia40 qm cI m9 ++ ia24 qw cI w9) s.heap.size)) (F0 mi 105 ls []) := by
            intro v3_105 v4_105 v5_105 v7_105 v8_105 v9_105 v10_105 v11_105 v12_105 v13_105 v14_105 g_105 m9_105 a9_105 H locs hP hS ls hl hf hok
            refine lv_iload hx hb dL_hears_105 (lv_at hl 5 rfl) ?_
            refine lv_aload hx hb dL_hears_107 (lv_at hl 6 rfl) ?_
            refine lv_iconst (v := 5) hx hb dL_hears_109 (by decide) ?_
            refine lv_iload hx hb dL_hears_110 (lv_at hl 12 rfl) ?_
            refine lv_imul hx hb dL_hears_112 ?_
            refine lv_iconst (v := 1) hx hb dL_hears_113 (by decide) ?_
            refine lv_iadd hx hb dL_hears_114 ?_
            obtain ⟨h49, hok⟩ := hok
            refine va_iald (D := (dC, dI)) (tys := (tYS cI cB cO cL)) hx hb hK hP 3 0 rfl rfl h49 dL_hears_115 ?_
            refine lv_sipush (v := 1000) hx hb dL_hears_116 (by decide) ?_
            refine lv_imul hx hb dL_hears_119 ?_
            refine lv_aload_n hx hb dL_hears_120 rfl (lv_at hl 0 rfl) ?_
            refine lv_bipush (v := 7) hx hb dL_hears_121 (by decide) ?_
            refine g_ialdK (D := (dC, dI)) (tys := (tYS cI cB cO cL)) (k := 7) hx hb hK hP 0 0 rfl rfl (by decide) (by decide) (by decide) dL_hears_123 ?_
            obtain ⟨h36, hok⟩ := hok
            refine lv_idiv hx hb dL_hears_124 h36 ?_
            refine lv_iadd hx hb dL_hears_125 ?_
            refine lv_aload_n hx hb dL_hears_126 rfl (lv_at hl 1 rfl) ?_
            refine lv_bipush (v := 10) hx hb dL_hears_127 (by decide) ?_
            refine lv_iload hx hb dL_hears_129 (lv_at hl 8 rfl) ?_
            refine lv_imul hx hb dL_hears_131 ?_
            refine lv_iconst (v := 2) hx hb dL_hears_132 (by decide) ?_
            refine lv_iadd hx hb dL_hears_133 ?_
            obtain ⟨h48, hok⟩ := hok
            refine va_iald (D := (dC, dI)) (tys := (tYS cI cB cO cL)) hx hb hK hP 1 0 rfl rfl h48 dL_hears_134 ?_
            refine lv_iadd hx hb dL_hears_135 ?_
            refine lv_iload hx hb dL_hears_136 (lv_at hl 13 rfl) ?_
            refine lv_iadd hx hb dL_hears_138 ?_
            refine lv_topi (fun x37 ex37 => ?_)
            have hf := lt_eq ex37 hf
            have hok := lt_ok ex37 hok
            refine lv_istore (lv' := [(15, .int x37), (0, .ref (qg 0)), (1, .ref (qm 0)), (2, .ref (qw 0)), (3, .int v3_105), (4, .int v4_105), (5, .int v5_105), (6, .ref (qa 0)), (7, .int v7_105), (8, .int v8_105), (9, .int v9_105), (10, .int v10_105), (11, .int v11_105), (12, .int v12_105), (13, .int v13_105), (14, .int (bz v14_105))]) hx hb dL_hears_139 hl (by decide) rfl (fun ls hl => ?_)
            refine lv_iload hx hb dL_hears_141 (lv_at hl 15 rfl) ?_
            refine lv_if_eq (tgt := 213) hx hb dL_hears_143 (by decide) (fun c38 => ?_) (fun c38 => ?_)
            · have c38 := bz_f c38
              have hf := ie_eq c38 hf
              have hok := ie_ok c38 hok
              exact J_213 v3_105 v4_105 v5_105 v7_105 v8_105 v9_105 v10_105 v11_105 v12_105 g_105 m9_105 a9_105 _ _ hP hS _ (lv_sub hl [1, 2, 3, 4, 5, 6, 7, 8, 9, 10, 11, 12, 13] rfl) hf hok
            · have c38 := bz_t c38
              have hf := it_eq c38 hf
              have hok := it_ok c38 hok
              refine lv_aload hx hb dL_hears_146 (lv_at hl 7 rfl) ?_
              refine lv_iconst (v := 5) hx hb dL_hears_148 (by decide) ?_
              refine lv_iload hx hb dL_hears_149 (lv_at hl 13 rfl) ?_
              refine lv_imul hx hb dL_hears_151 ?_
              refine lv_iconst (v := 2) hx hb dL_hears_152 (by decide) ?_
              refine lv_iadd hx hb dL_hears_153 ?_
              obtain ⟨h47, hok⟩ := hok
              refine va_iald (D := (dC, dI)) (tys := (tYS cI cB cO cL)) hx hb hK hP 3 0 rfl rfl h47 dL_hears_154 ?_
              refine lv_aload_n hx hb dL_hears_155 rfl (lv_at hl 1 rfl) ?_
              refine lv_bipush (v := 11) hx hb dL_hears_156 (by decide) ?_
              refine g_ialdK (D := (dC, dI)) (tys := (tYS cI cB cO cL)) (k := 11) hx hb hK hP 0 0 rfl rfl (by decide) (by decide) (by decide) dL_hears_158 ?_
              refine lv_icmp_lt (tgt := 213) hx hb dL_hears_159 (by decide) (fun c40 => ?_) (fun c40 => ?_)
              · have hf := it_eq c40 hf
                have hok := it_ok c40 hok
                exact J_213 v3_105 v4_105 v5_105 v7_105 v8_105 v9_105 v10_105 v11_105 v12_105 g_105 m9_105 a9_105 _ _ hP hS _ (lv_sub hl [1, 2, 3, 4, 5, 6, 7, 8, 9, 10, 11, 12, 13] rfl) hf hok
              · have hf := ie_eq c40 hf
                have hok := ie_ok c40 hok
                refine lv_iload hx hb dL_hears_162 (lv_at hl 11 rfl) ?_
                refine lv_if_lt (tgt := 205) hx hb dL_hears_164 (by decide) (fun c41 => ?_) (fun c41 => ?_)
                · have hf := it_eq c41 hf
                  have hok := it_ok c41 hok
                  exact J_205 v3_105 v4_105 v5_105 v7_105 v8_105 v9_105 v12_105 x37 g_105 m9_105 a9_105 _ _ hP hS _ (lv_sub hl [1, 2, 3, 4, 5, 6, 7, 8, 9, 10, 13, 0] rfl) hf hok
                · have hf := ie_eq c41 hf
                  have hok := ie_ok c41 hok
                  refine lv_aload_n hx hb dL_hears_167 rfl (lv_at hl 1 rfl) ?_
                  refine lv_bipush (v := 12) hx hb dL_hears_168 (by decide) ?_
                  refine g_ialdK (D := (dC, dI)) (tys := (tYS cI cB cO cL)) (k := 12) hx hb hK hP 0 0 rfl rfl (by decide) (by decide) (by decide) dL_hears_170 ?_
                  refine lv_if_ne (tgt := 184) hx hb dL_hears_171 (by decide) (fun c42 => ?_) (fun c42 => ?_)
                  · have hf := ie_eq c42 hf
                    have hok := ie_ok c42 hok
                    refine lv_aload hx hb dL_hears_184 (lv_at hl 7 rfl) ?_
                    refine lv_iconst (v := 5) hx hb dL_hears_186 (by decide) ?_
                    refine lv_iload hx hb dL_hears_187 (lv_at hl 13 rfl) ?_
                    refine lv_imul hx hb dL_hears_189 ?_
                    refine lv_iconst (v := 2) hx hb dL_hears_190 (by decide) ?_
                    refine lv_iadd hx hb dL_hears_191 ?_
                    obtain ⟨h45, hok⟩ := hok
                    refine va_iald (D := (dC, dI)) (tys := (tYS cI cB cO cL)) hx hb hK hP 3 0 rfl rfl h45 dL_hears_192 ?_
                    refine lv_aload hx hb dL_hears_193 (lv_at hl 7 rfl) ?_
                    refine lv_iconst (v := 5) hx hb dL_hears_195 (by decide) ?_
                    refine lv_iload hx hb dL_hears_196 (lv_at hl 11 rfl) ?_
                    refine lv_imul hx hb dL_hears_198 ?_
                    refine lv_iconst (v := 2) hx hb dL_hears_199 (by decide) ?_
                    refine lv_iadd hx hb dL_hears_200 ?_
                    obtain ⟨h44, hok⟩ := hok
                    refine va_iald (D := (dC, dI)) (tys := (tYS cI cB cO cL)) hx hb hK hP 3 0 rfl rfl h44 dL_hears_201 ?_
                    refine lv_icmp_le (tgt := 213) hx hb dL_hears_202 (by decide) (fun c43 => ?_) (fun c43 => ?_)
                    · have hf := it_eq c43 hf
                      have hok := it_ok c43 hok
                      exact J_213 v3_105 v4_105 v5_105 v7_105 v8_105 v9_105 v10_105 v11_105 v12_105 g_105 m9_105 a9_105 _ _ hP hS _ (lv_sub hl [1, 2, 3, 4, 5, 6, 7, 8, 9, 10, 11, 12, 13] rfl) hf hok
                    · have hf := ie_eq c43 hf
                      have hok := ie_ok c43 hok
                      exact J_205 v3_105 v4_105 v5_105 v7_105 v8_105 v9_105 v12_105 x37 g_105 m9_105 a9_105 _ _ hP hS _ (lv_sub hl [1, 2, 3, 4, 5, 6, 7, 8, 9, 10, 13, 0] rfl) hf hok
                  · have hf := it_eq c42 hf
                    have hok := it_ok c42 hok
                    refine lv_iload hx hb dL_hears_174 (lv_at hl 0 rfl) ?_
                    refine lv_iload hx hb dL_hears_176 (lv_at hl 12 rfl) ?_
                    refine lv_icmp_ge (tgt := 213) hx hb dL_hears_178 (by decide) (fun c46 => ?_) (fun c46 => ?_)
                    · have hf := it_eq c46 hf
                      have hok := it_ok c46 hok
                      exact J_213 v3_105 v4_105 v5_105 v7_105 v8_105 v9_105 v10_105 v11_105 v12_105 g_105 m9_105 a9_105 _ _ hP hS _ (lv_sub hl [1, 2, 3, 4, 5, 6, 7, 8, 9, 10, 11, 12, 13] rfl) hf hok
                    · have hf := ie_eq c46 hf
                      have hok := ie_ok c46 hok
                      refine lv_goto (tgt := 205) hx hb dL_hears_181 (by decide) ?_
                      exact J_205 v3_105 v4_105 v5_105 v7_105 v8_105 v9_105 v12_105 x37 g_105 m9_105 a9_105 _ _ hP hS _ (lv_sub hl [1, 2, 3, 4, 5, 6, 7, 8, 9, 10, 13, 0] rfl) hf hok
          have J_72 : ∀ (v3_72 : Int32) (v4_72 : Int32) (v5_72 : Int32) (v7_72 : Int32) (v8_72 : Int32) (v9_72 : Int32) (v10_72 : Int32) (v11_72 : Int32) (v12_72 : Int32) (v13_72 : Bool) (t0_72 : Bool) (g_72 : (Nat → Int32)) (m9_72 : (Nat → Int32)) (a9_72 : (Nat → Int32)) (H : Heap) (locs : List Loc), va_P (dC, dI) vwCl (ia14 qg cI g_72 ++ ia40 qm cI m9_72 ++ ia24 qw cI w9 ++ ia60 qa cI a9_72) H → va_S (va_A (ia14 qg cI g ++ ia40 qm cI m9 ++ ia24 qw cI w9) s.heap.size) s.heap H locs → ∀ ls : Array Slot, lv_has ls 16 [(0, .ref (qg 0)), (1, .ref (qm 0)), (2, .ref (qw 0)), (3, .int v3_72), (4, .int v4_72), (5, .int v5_72), (6, .ref (qa 0)), (7, .int v7_72), (8, .int v8_72), (9, .int v9_72), (10, .int v10_72), (11, .int v11_72), (12, .int v12_72), (13, .int (bz v13_72))] → F = pL_hears_L72 w9 (pL_hears_L12 w9 n_12) (pL_hears_L44 w9 (pL_hears_L12 w9 n_12) n_44) v3_72 v4_72 v5_72 v7_72 v8_72 v9_72 v10_72 v11_72 v12_72 v13_72 t0_72 g_72 m9_72 a9_72 → kL_hears_L72 w9 (kL_hears_L12 w9 n_12) (kL_hears_L44 w9 (kL_hears_L12 w9 n_12) n_44) v3_72 v4_72 v5_72 v7_72 v8_72 v9_72 v10_72 v11_72 v12_72 v13_72 t0_72 g_72 m9_72 a9_72 → W p l e rL_hears s mi ([.ref (qg 0), .ref (qm 0), .ref (qw 0), .int a4, .int a5, .int a6] : List Value).toArray below meth c H locs 1 60 (MQ below (gQi (dC, dI) (fun z9 : (Nat → Int32) × (Nat → Int32) => ia14 qg cI z9.1 ++ ia40 qm cI z9.2 ++ ia24 qw cI w9) (va_A (ia14 qg cI g ++ ia40 qm cI m9 ++ ia24 qw cI w9) s.heap.size) (pL_hears g m9 w9 a4 a5 a6)) ([.ref (qg 0), .ref (qm 0), .ref (qw 0), .int a4, .int a5, .int a6] : List Value).toArray s 1 60 (va_A (ia14 qg cI g ++ ia40 qm cI m9 ++ ia24 qw cI w9) s.heap.size)) (F0 mi 72 ls [.int (bz t0_72)]) := by
            intro v3_72 v4_72 v5_72 v7_72 v8_72 v9_72 v10_72 v11_72 v12_72 v13_72 t0_72 g_72 m9_72 a9_72 H locs hP hS ls hl hf hok
            refine lv_istore (lv' := [(14, .int (bz t0_72)), (0, .ref (qg 0)), (1, .ref (qm 0)), (2, .ref (qw 0)), (3, .int v3_72), (4, .int v4_72), (5, .int v5_72), (6, .ref (qa 0)), (7, .int v7_72), (8, .int v8_72), (9, .int v9_72), (10, .int v10_72), (11, .int v11_72), (12, .int v12_72), (13, .int (bz v13_72))]) hx hb dL_hears_72 hl (by decide) rfl (fun ls hl => ?_)
            refine lv_iload hx hb dL_hears_74 (lv_at hl 0 rfl) ?_
            refine lv_if_eq (tgt := 105) hx hb dL_hears_76 (by decide) (fun c35 => ?_) (fun c35 => ?_)
            · have c35 := bz_f c35
              have hf := ie_eq c35 hf
              have hok := ie_ok c35 hok
              exact J_105 v3_72 v4_72 v5_72 v7_72 v8_72 v9_72 v10_72 v11_72 v12_72 (bz v13_72) t0_72 g_72 m9_72 a9_72 _ _ hP hS _ (lv_sub hl [1, 2, 3, 4, 5, 6, 7, 8, 9, 10, 11, 12, 13, 14, 0] rfl) hf hok
            · have c35 := bz_t c35
              have hf := it_eq c35 hf
              have hok := it_ok c35 hok
              refine lv_aload_n hx hb dL_hears_79 rfl (lv_at hl 1 rfl) ?_
              refine lv_bipush (v := 10) hx hb dL_hears_80 (by decide) ?_
              refine g_ialdK (D := (dC, dI)) (tys := (tYS cI cB cO cL)) (k := 10) hx hb hK hP 0 0 rfl rfl (by decide) (by decide) (by decide) dL_hears_82 ?_
              refine lv_if_le (tgt := 105) hx hb dL_hears_83 (by decide) (fun c50 => ?_) (fun c50 => ?_)
              · have hf := it_eq c50 hf
                have hok := it_ok c50 hok
                exact J_105 v3_72 v4_72 v5_72 v7_72 v8_72 v9_72 v10_72 v11_72 v12_72 (bz v13_72) t0_72 g_72 m9_72 a9_72 _ _ hP hS _ (lv_sub hl [1, 2, 3, 4, 5, 6, 7, 8, 9, 10, 11, 12, 13, 14, 0] rfl) hf hok
              · have hf := ie_eq c50 hf
                have hok := ie_ok c50 hok
                refine lv_aload_n hx hb dL_hears_86 rfl (lv_at hl 1 rfl) ?_
                refine lv_iconst (v := 2) hx hb dL_hears_87 (by decide) ?_
                refine lv_aload_n hx hb dL_hears_88 rfl (lv_at hl 1 rfl) ?_
                refine lv_bipush (v := 10) hx hb dL_hears_89 (by decide) ?_
                refine g_ialdK (D := (dC, dI)) (tys := (tYS cI cB cO cL)) (k := 10) hx hb hK hP 0 0 rfl rfl (by decide) (by decide) (by decide) dL_hears_91 ?_
                refine lv_imul hx hb dL_hears_92 ?_
                refine lv_iconst (v := 1) hx hb dL_hears_93 (by decide) ?_
                refine lv_iadd hx hb dL_hears_94 ?_
                obtain ⟨h51, hok⟩ := hok
                have hPc := hP.sub (ws' := ia14 qg cI g_72) [0] rfl
                refine gmu_i (va_runS (As := [.ref (qg 0), .int ((2 * (g_72 10)) + 1)]) (rest := []) ⟨hx, hb, hml, hown, hts⟩ (mL_draw l dC dI cI cB cO cL qg g_72 ((2 * (g_72 10)) + 1) (gD_subT hD [0] rfl rfl) h51) (va_cwS 2 hts gL_hears_L_draw rfl rfl rfl (by decide +kernel) ⟨Nat.le_of_ble_eq_true rfl, Nat.le_of_ble_eq_true rfl⟩) ⟨gP_blind, gP_ok hPc hK⟩ rfl rfl hl.1 rfl (lv_room (Nat.le_of_ble_eq_true rfl)) dL_hears_95 ⟨Nat.le_of_ble_eq_true rfl, Nat.le_of_ble_eq_true rfl⟩) hP (gD_va hD rfl) hS [0] rfl (fun _ => rfl) (fun r52 u53 H locs hw hP hS => ?_)
                have hP : va_P (dC, dI) vwCl (ia14 qg cI u53 ++ ia40 qm cI m9_72 ++ ia24 qw cI w9 ++ ia60 qa cI a9_72) H := hP
                have hf := bd_eq hw hf
                have hok := bd_ok hw hok
                refine lv_aload_n hx hb dL_hears_98 rfl (lv_at hl 1 rfl) ?_
                refine lv_bipush (v := 10) hx hb dL_hears_99 (by decide) ?_
                refine g_ialdK (D := (dC, dI)) (tys := (tYS cI cB cO cL)) (k := 10) hx hb hK hP 0 0 rfl rfl (by decide) (by decide) (by decide) dL_hears_101 ?_
                refine lv_isub hx hb dL_hears_102 ?_
                refine lv_topi (fun x54 ex54 => ?_)
                have hf := lt_eq ex54 hf
                have hok := lt_ok ex54 hok
                refine lv_istore (lv' := [(13, .int x54), (14, .int (bz t0_72)), (0, .ref (qg 0)), (1, .ref (qm 0)), (2, .ref (qw 0)), (3, .int v3_72), (4, .int v4_72), (5, .int v5_72), (6, .ref (qa 0)), (7, .int v7_72), (8, .int v8_72), (9, .int v9_72), (10, .int v10_72), (11, .int v11_72), (12, .int v12_72)]) hx hb dL_hears_103 hl (by decide) rfl (fun ls hl => ?_)
                exact J_105 v3_72 v4_72 v5_72 v7_72 v8_72 v9_72 v10_72 v11_72 v12_72 x54 t0_72 u53 m9_72 a9_72 _ _ hP hS _ (lv_sub hl [2, 3, 4, 5, 6, 7, 8, 9, 10, 11, 12, 13, 14, 0, 1] rfl) hf hok
          intro v3_44 v4_44 v5_44 v7_44 v8_44 v9_44 v10_44 v11_44 v12_44 g_44 m9_44 a9_44 H locs hP hS ls hl hf hok
          have hf : F = bL_hears_L44 w9 (pL_hears_L12 w9 n_12) (pL_hears_L44 w9 (pL_hears_L12 w9 n_12) n_44) v3_44 v4_44 v5_44 v7_44 v8_44 v9_44 v10_44 v11_44 v12_44 g_44 m9_44 a9_44 := hf
          have hok : kbL_hears_L44 w9 (kL_hears_L12 w9 n_12) (kL_hears_L44 w9 (kL_hears_L12 w9 n_12) n_44) v3_44 v4_44 v5_44 v7_44 v8_44 v9_44 v10_44 v11_44 v12_44 g_44 m9_44 a9_44 := hok
          refine lv_iload hx hb dL_hears_44 (lv_at hl 12 rfl) ?_
          refine lv_iload hx hb dL_hears_46 (lv_at hl 9 rfl) ?_
          refine lv_icmp_ge (tgt := 219) hx hb dL_hears_48 (by decide) (fun c6 => ?_) (fun c6 => ?_)
          · have hf := it_eq c6 hf
            have hok := it_ok c6 hok
            refine lv_aload_n hx hb dL_hears_219 rfl (lv_at hl 1 rfl) ?_
            refine lv_bipush (v := 10) hx hb dL_hears_220 (by decide) ?_
            refine lv_iload hx hb dL_hears_222 (lv_at hl 8 rfl) ?_
            refine lv_imul hx hb dL_hears_224 ?_
            refine lv_iconst (v := 4) hx hb dL_hears_225 (by decide) ?_
            refine lv_iadd hx hb dL_hears_226 ?_
            refine lv_iload hx hb dL_hears_227 (lv_at hl 10 rfl) ?_
            refine lv_if_ge (tgt := 236) hx hb dL_hears_229 (by decide) (fun c7 => ?_) (fun c7 => ?_)
            · have hf := it_eq c7 hf
              have hok := it_ok c7 hok
              refine lv_iconst (v := 1) hx hb dL_hears_236 (by decide) ?_
              exact J_237 v3_44 v4_44 v5_44 v7_44 v8_44 v10_44 v11_44 ((10 * v8_44) + 4) true g_44 m9_44 a9_44 _ _ hP hS _ (lv_sub hl [0, 1, 2, 3, 4, 5, 6, 7, 8, 10, 11] rfl) hf hok
            · have hf := ie_eq c7 hf
              have hok := ie_ok c7 hok
              refine lv_iconst (v := 0) hx hb dL_hears_232 (by decide) ?_
              refine lv_goto (tgt := 237) hx hb dL_hears_233 (by decide) ?_
              exact J_237 v3_44 v4_44 v5_44 v7_44 v8_44 v10_44 v11_44 ((10 * v8_44) + 4) false g_44 m9_44 a9_44 _ _ hP hS _ (lv_sub hl [0, 1, 2, 3, 4, 5, 6, 7, 8, 10, 11] rfl) hf hok
          · have hf := ie_eq c6 hf
            have hok := ie_ok c6 hok
            refine lv_iconst (v := 0) hx hb dL_hears_51 (by decide) ?_
            refine lv_istore (lv' := [(13, .int 0), (0, .ref (qg 0)), (1, .ref (qm 0)), (2, .ref (qw 0)), (3, .int v3_44), (4, .int v4_44), (5, .int v5_44), (6, .ref (qa 0)), (7, .int v7_44), (8, .int v8_44), (9, .int v9_44), (10, .int v10_44), (11, .int v11_44), (12, .int v12_44)]) hx hb dL_hears_52 hl (by decide) rfl (fun ls hl => ?_)
            refine lv_aload_n hx hb dL_hears_54 rfl (lv_at hl 1 rfl) ?_
            refine lv_bipush (v := 100) hx hb dL_hears_55 (by decide) ?_
            obtain ⟨h31, hok⟩ := hok
            have hPc := hP.sub (ws' := ia14 qg cI g_44) [0] rfl
            refine gmu_i (va_runS (As := [.ref (qg 0), .int 100]) (rest := []) ⟨hx, hb, hml, hown, hts⟩ (mL_draw l dC dI cI cB cO cL qg g_44 100 (gD_subT hD [0] rfl rfl) h31) (va_cwS 2 hts gL_hears_L_draw rfl rfl rfl (by decide +kernel) ⟨Nat.le_of_ble_eq_true rfl, Nat.le_of_ble_eq_true rfl⟩) ⟨gP_blind, gP_ok hPc hK⟩ rfl rfl hl.1 rfl (lv_room (Nat.le_of_ble_eq_true rfl)) dL_hears_57 ⟨Nat.le_of_ble_eq_true rfl, Nat.le_of_ble_eq_true rfl⟩) hP (gD_va hD rfl) hS [0] rfl (fun _ => rfl) (fun r32 u33 H locs hw hP hS => ?_)
            have hP : va_P (dC, dI) vwCl (ia14 qg cI u33 ++ ia40 qm cI m9_44 ++ ia24 qw cI w9 ++ ia60 qa cI a9_44) H := hP
            have hf := bd_eq hw hf
            have hok := bd_ok hw hok
            refine lv_aload_n hx hb dL_hears_60 rfl (lv_at hl 1 rfl) ?_
            refine lv_bipush (v := 9) hx hb dL_hears_61 (by decide) ?_
            refine g_ialdK (D := (dC, dI)) (tys := (tYS cI cB cO cL)) (k := 9) hx hb hK hP 0 0 rfl rfl (by decide) (by decide) (by decide) dL_hears_63 ?_
            refine lv_icmp_lt (tgt := 71) hx hb dL_hears_64 (by decide) (fun c34 => ?_) (fun c34 => ?_)
            · have hf := it_eq c34 hf
              have hok := it_ok c34 hok
              refine lv_iconst (v := 0) hx hb dL_hears_71 (by decide) ?_
              exact J_72 v3_44 v4_44 v5_44 v7_44 v8_44 v9_44 v10_44 v11_44 v12_44 false false u33 m9_44 a9_44 _ _ hP hS _ (lv_sub hl [1, 2, 3, 4, 5, 6, 7, 8, 9, 10, 11, 12, 13, 0] rfl) hf hok
            · have hf := ie_eq c34 hf
              have hok := ie_ok c34 hok
              refine lv_iconst (v := 1) hx hb dL_hears_67 (by decide) ?_
              refine lv_goto (tgt := 72) hx hb dL_hears_68 (by decide) ?_
              exact J_72 v3_44 v4_44 v5_44 v7_44 v8_44 v9_44 v10_44 v11_44 v12_44 false true u33 m9_44 a9_44 _ _ hP hS _ (lv_sub hl [1, 2, 3, 4, 5, 6, 7, 8, 9, 10, 11, 12, 13, 0] rfl) hf hok
      intro v3_12 v4_12 v5_12 v7_12 v8_12 g_12 m9_12 a9_12 H locs hP hS ls hl hf hok
      have hf : F = bL_hears_L12 w9 (pL_hears_L12 w9 n_12) v3_12 v4_12 v5_12 v7_12 v8_12 g_12 m9_12 a9_12 := hf
      have hok : kbL_hears_L12 w9 (kL_hears_L12 w9 n_12) v3_12 v4_12 v5_12 v7_12 v8_12 g_12 m9_12 a9_12 := hok
      refine lv_iload hx hb dL_hears_12 (lv_at hl 8 rfl) ?_
      refine lv_aload_n hx hb dL_hears_14 rfl (lv_at hl 0 rfl) ?_
      refine lv_iconst (v := 2) hx hb dL_hears_15 (by decide) ?_
      refine g_ialdK (D := (dC, dI)) (tys := (tYS cI cB cO cL)) (k := 2) hx hb hK hP 0 0 rfl rfl (by decide) (by decide) (by decide) dL_hears_16 ?_
      refine lv_icmp_ge (tgt := 384) hx hb dL_hears_17 (by decide) (fun c1 => ?_) (fun c1 => ?_)
      · have hf := it_eq c1 hf
        refine lv_aload_n hx hb dL_hears_384 rfl (lv_at hl 0 rfl) ?_
        refine lv_iconst (v := 5) hx hb dL_hears_385 (by decide) ?_
        refine lv_dup2_11 hx hb dL_hears_386 rfl rfl ?_
        refine g_ialdK (D := (dC, dI)) (tys := (tYS cI cB cO cL)) (k := 5) hx hb hK hP 0 0 rfl rfl (by decide) (by decide) (by decide) dL_hears_387 ?_
        refine lv_iconst (v := 1) hx hb dL_hears_388 (by decide) ?_
        refine lv_iadd hx hb dL_hears_389 ?_
        refine g_iastK (D := (dC, dI)) (tys := (tYS cI cB cO cL)) (k := 5) hx hb hK hP (gD_va hD rfl) hS 0 0 rfl rfl (by decide) (by decide) (by decide) dL_hears_390 (fun H locs hP hS => ?_)
        obtain ⟨g_2, eg_2⟩ : ∃ z9 : (Nat → Int32), z9 = (upd g_12 5 ((g_12 5) + 1)) := ⟨_, rfl⟩
        have hP : va_P (dC, dI) vwCl (ia14 qg cI g_2 ++ ia40 qm cI m9_12 ++ ia24 qw cI w9 ++ ia60 qa cI a9_12) H := by rw [eg_2]; exact hP
        have hf := lt_eq eg_2 hf
        refine lv_iload hx hb dL_hears_391 (lv_at hl 7 rfl) ?_
        exact e_hi C0 (hf.symm.trans hF) hP hS dL_hears_393
      · have hf := ie_eq c1 hf
        have hok := ie_ok c1 hok
        refine lv_aload_n hx hb dL_hears_20 rfl (lv_at hl 0 rfl) ?_
        refine lv_aload_n hx hb dL_hears_21 rfl (lv_at hl 1 rfl) ?_
        refine lv_aload_n hx hb dL_hears_22 rfl (lv_at hl 2 rfl) ?_
        refine lv_aload hx hb dL_hears_23 (lv_at hl 6 rfl) ?_
        refine lv_iload_n hx hb dL_hears_25 rfl (lv_at hl 3 rfl) ?_
        refine lv_iload hx hb dL_hears_26 (lv_at hl 4 rfl) ?_
        refine lv_iload hx hb dL_hears_28 (lv_at hl 8 rfl) ?_
        obtain ⟨h3, hok⟩ := hok
        refine gms_i (va_runS (As := [.ref (qg 0), .ref (qm 0), .ref (qw 0), .ref (qa 0), .int v3_12, .int v4_12, .int v8_12]) (rest := []) ⟨hx, hb, hml, hown, hts⟩ (mL_lists l dC dI cI cB cO cL qg qm qw qa g_12 m9_12 w9 a9_12 v3_12 v4_12 v8_12 (gD_any hD) h3) (va_cwS 7 hts gL_hears_L_lists rfl rfl rfl (by decide +kernel) ⟨Nat.le_of_ble_eq_true rfl, Nat.le_of_ble_eq_true rfl⟩) ⟨gP_blind, gP_ok hP hK⟩ rfl rfl hl.1 rfl (lv_room (Nat.le_of_ble_eq_true rfl)) dL_hears_30 ⟨Nat.le_of_ble_eq_true rfl, Nat.le_of_ble_eq_true rfl⟩) hP (gD_va hD rfl) hS (fun r4 u5 H locs hw hP hS => ?_)
        have hP : va_P (dC, dI) vwCl (ia14 qg cI g_12 ++ ia40 qm cI m9_12 ++ ia24 qw cI w9 ++ ia60 qa cI u5) H := hP
        have hf := bd_eq hw hf
        have hok := bd_ok hw hok
        refine lv_istore (lv' := [(9, .int r4), (0, .ref (qg 0)), (1, .ref (qm 0)), (2, .ref (qw 0)), (3, .int v3_12), (4, .int v4_12), (5, .int v5_12), (6, .ref (qa 0)), (7, .int v7_12), (8, .int v8_12)]) hx hb dL_hears_33 hl (by decide) rfl (fun ls hl => ?_)
        refine lv_iconst (v := (-1)) hx hb dL_hears_35 (by decide) ?_
        refine lv_istore (lv' := [(10, .int (-1)), (9, .int r4), (0, .ref (qg 0)), (1, .ref (qm 0)), (2, .ref (qw 0)), (3, .int v3_12), (4, .int v4_12), (5, .int v5_12), (6, .ref (qa 0)), (7, .int v7_12), (8, .int v8_12)]) hx hb dL_hears_36 hl (by decide) rfl (fun ls hl => ?_)
        refine lv_iconst (v := 0) hx hb dL_hears_38 (by decide) ?_
        refine lv_istore (lv' := [(11, .int 0), (10, .int (-1)), (9, .int r4), (0, .ref (qg 0)), (1, .ref (qm 0)), (2, .ref (qw 0)), (3, .int v3_12), (4, .int v4_12), (5, .int v5_12), (6, .ref (qa 0)), (7, .int v7_12), (8, .int v8_12)]) hx hb dL_hears_39 hl (by decide) rfl (fun ls hl => ?_)
        refine lv_iconst (v := 0) hx hb dL_hears_41 (by decide) ?_
        refine lv_istore (lv' := [(12, .int 0), (11, .int 0), (10, .int (-1)), (9, .int r4), (0, .ref (qg 0)), (1, .ref (qm 0)), (2, .ref (qw 0)), (3, .int v3_12), (4, .int v4_12), (5, .int v5_12), (6, .ref (qa 0)), (7, .int v7_12), (8, .int v8_12)]) hx hb dL_hears_42 hl (by decide) rfl (fun ls hl => ?_)
        exact J_44 fu v3_12 v4_12 v5_12 v7_12 v8_12 r4 (-1) 0 0 g_12 m9_12 u5 _ _ hP hS _ (lv_sub hl [4, 5, 6, 7, 8, 9, 10, 11, 12, 3, 2, 1, 0] rfl) hf hok
  refine lv_iconst (v := 0) hx hb dL_hears_6 (by decide) ?_
  refine lv_istore (lv' := [(7, .int 0), (6, .ref (qa 0)), (0, .ref (qg 0)), (1, .ref (qm 0)), (2, .ref (qw 0)), (3, .int a4), (4, .int a5), (5, .int a6)]) hx hb dL_hears_7 hl (by decide) rfl (fun ls hl => ?_)
  refine lv_iconst (v := 0) hx hb dL_hears_9 (by decide) ?_
  refine lv_istore (lv' := [(8, .int 0), (7, .int 0), (6, .ref (qa 0)), (0, .ref (qg 0)), (1, .ref (qm 0)), (2, .ref (qw 0)), (3, .int a4), (4, .int a5), (5, .int a6)]) hx hb dL_hears_10 hl (by decide) rfl (fun ls hl => ?_)
  exact J_12 fu a4 a5 a6 0 0 g m9 (fun _ : Nat => (0 : Int32)) _ _ hP hS _ (lv_sub hl [3, 4, 5, 6, 7, 8, 2, 1, 0] rfl) hf hok
