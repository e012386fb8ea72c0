noncomputable def pX8_mostBlamed_L41  (q_8 : Int32 → Int32 → Int32 → SS → BS → (Int32 × SS × BS)) (v2_41 : Int32) (v3_41 : Int32) (v4_41 : Int32) (s9_41 : SS) (b_41 : BS) : Int32 × SS × BS := lt (v4_41 + 1) fun (x6 : Int32) => q_8 v2_41 v3_41 x6 s9_41 b_41
def kX8_mostBlamed_L41  (Q_8 : Int32 → Int32 → Int32 → SS → BS → Prop) (v2_41 : Int32) (v3_41 : Int32) (v4_41 : Int32) (s9_41 : SS) (b_41 : BS) : Prop := lt (v4_41 + 1) fun (x6 : Int32) => Q_8 v2_41 v3_41 x6 s9_41 b_41
noncomputable def bX8_mostBlamed_L8   (q_8 : Int32 → Int32 → Int32 → SS → BS → (Int32 × SS × BS)) (v2_8 : Int32) (v3_8 : Int32) (v4_8 : Int32) (s9_8 : SS) (b_8 : BS) : Int32 × SS × BS := if (b_8.1 4) ≤ v4_8 then ((v2_8, s9_8, b_8)) else (bd (pX8_blameOf s9_8 b_8 v4_8) fun (r3 : Int32) (u4 : SS × BS) => if r3 ≤ v3_8 then (pX8_mostBlamed_L41 q_8 v2_8 v3_8 v4_8 u4.1 u4.2) else (pX8_mostBlamed_L41 q_8 v4_8 r3 v4_8 u4.1 u4.2))
noncomputable def pX8_mostBlamed_L8   : Nat → Int32 → Int32 → Int32 → SS → BS → (Int32 × SS × BS)
  | 0 => fun _ _ _ s9_8 b_8 => (0, s9_8, b_8)
  | n + 1 => bX8_mostBlamed_L8   (pX8_mostBlamed_L8   n)
def kbX8_mostBlamed_L8   (Q_8 : Int32 → Int32 → Int32 → SS → BS → Prop) (v2_8 : Int32) (v3_8 : Int32) (v4_8 : Int32) (s9_8 : SS) (b_8 : BS) : Prop := if (b_8.1 4) ≤ v4_8 then (True) else ((kX8_blameOf s9_8 b_8 v4_8) ∧ (bd (pX8_blameOf s9_8 b_8 v4_8) fun (r3 : Int32) (u4 : SS × BS) => if r3 ≤ v3_8 then (kX8_mostBlamed_L41 Q_8 v2_8 v3_8 v4_8 u4.1 u4.2) else (kX8_mostBlamed_L41 Q_8 v4_8 r3 v4_8 u4.1 u4.2)))
noncomputable def kX8_mostBlamed_L8   : Nat → Int32 → Int32 → Int32 → SS → BS → Prop
  | 0 => fun _ _ _ _ _ => False
  | n + 1 => kbX8_mostBlamed_L8   (kX8_mostBlamed_L8   n)
noncomputable def pX8_mostBlamed (s9 : SS) (b : BS) : Int32 × SS × BS := pX8_mostBlamed_L8 fu (-1000000000) 0 0 s9 b
def kX8_mostBlamed (s9 : SS) (b : BS) : Prop := kX8_mostBlamed_L8 fu (-1000000000) 0 0 s9 b
abbrev rX8_mostBlamed : Room := { frames := 5, cells := 0, slots := 0, locals := 123 }
