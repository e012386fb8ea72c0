noncomputable def pX8_sumOfTied_L53 (s9 : SS) (b : BS) (q_5 : Bool → Int32 → Int32 → Int32) (v2_53 : Bool) (v3_53 : Int32) (v4_53 : Int32) : Int32 := lt (v4_53 + 1) fun (x5 : Int32) => q_5 v2_53 v3_53 x5
def kX8_sumOfTied_L53 (s9 : SS) (b : BS) (Q_5 : Bool → Int32 → Int32 → Prop) (v2_53 : Bool) (v3_53 : Int32) (v4_53 : Int32) : Prop := lt (v4_53 + 1) fun (x5 : Int32) => Q_5 v2_53 v3_53 x5
noncomputable def pX8_sumOfTied_L51 (s9 : SS) (b : BS) (q_5 : Bool → Int32 → Int32 → Int32) (v2_51 : Bool) (v4_51 : Int32) (t0_51 : Int32) (t1_51 : Int32) : Int32 := lt (t0_51 + t1_51) fun (x8 : Int32) => pX8_sumOfTied_L53 s9 b q_5 v2_51 x8 v4_51
def kX8_sumOfTied_L51 (s9 : SS) (b : BS) (Q_5 : Bool → Int32 → Int32 → Prop) (v2_51 : Bool) (v4_51 : Int32) (t0_51 : Int32) (t1_51 : Int32) : Prop := lt (t0_51 + t1_51) fun (x8 : Int32) => kX8_sumOfTied_L53 s9 b Q_5 v2_51 x8 v4_51
noncomputable def bX8_sumOfTied_L5 (s9 : SS) (b : BS)  (q_5 : Bool → Int32 → Int32 → Int32) (v2_5 : Bool) (v3_5 : Int32) (v4_5 : Int32) : Int32 := if (pX2_cellCount b) ≤ v4_5 then (v3_5) else (if (pX8_votesOf s9 v4_5) = (pX8_votesOf s9 (s9.1 1)) then (if v2_5 = true then (pX8_sumOfTied_L51 s9 b q_5 v2_5 v4_5 v3_5 (pX2_rowOf b v4_5)) else (pX8_sumOfTied_L51 s9 b q_5 v2_5 v4_5 v3_5 (pX2_columnOf b v4_5))) else (pX8_sumOfTied_L53 s9 b q_5 v2_5 v3_5 v4_5))
noncomputable def pX8_sumOfTied_L5 (s9 : SS) (b : BS)  : Nat → Bool → Int32 → Int32 → Int32
  | 0 => fun _ _ _ => (0)
  | n + 1 => bX8_sumOfTied_L5 s9 b  (pX8_sumOfTied_L5 s9 b  n)
def kbX8_sumOfTied_L5 (s9 : SS) (b : BS)  (Q_5 : Bool → Int32 → Int32 → Prop) (v2_5 : Bool) (v3_5 : Int32) (v4_5 : Int32) : Prop := if (pX2_cellCount b) ≤ v4_5 then (True) else ((kX8_votesOf s9 v4_5) ∧ ((kX8_votesOf s9 (s9.1 1)) ∧ (if (pX8_votesOf s9 v4_5) = (pX8_votesOf s9 (s9.1 1)) then (if v2_5 = true then ((kX2_rowOf b v4_5) ∧ (kX8_sumOfTied_L51 s9 b Q_5 v2_5 v4_5 v3_5 (pX2_rowOf b v4_5))) else ((kX2_columnOf b v4_5) ∧ (kX8_sumOfTied_L51 s9 b Q_5 v2_5 v4_5 v3_5 (pX2_columnOf b v4_5)))) else (kX8_sumOfTied_L53 s9 b Q_5 v2_5 v3_5 v4_5))))
noncomputable def kX8_sumOfTied_L5 (s9 : SS) (b : BS)  : Nat → Bool → Int32 → Int32 → Prop
  | 0 => fun _ _ _ => False
  | n + 1 => kbX8_sumOfTied_L5 s9 b  (kX8_sumOfTied_L5 s9 b  n)
noncomputable def pX8_sumOfTied (s9 : SS) (b : BS) (a2 : Bool) : Int32 := pX8_sumOfTied_L5 s9 b fu a2 0 0
def kX8_sumOfTied (s9 : SS) (b : BS) (a2 : Bool) : Prop := kX8_sumOfTied_L5 s9 b fu a2 0 0
abbrev rX8_sumOfTied : Room := { frames := 2, cells := 0, slots := 0, locals := 43 }
