noncomputable def pX5_append (x : TS) (a1 : Int32) : Int32 × TS := if (pX5_isFull x) = true then ((x.1, x)) else (lt ((x.1, (upd x.2 x.1.toNatClampNeg a1))) fun (x_3 : TS) => lt ((x_3.1 + 1, x_3.2)) fun (x_4 : TS) => (x_4.1, x_4))
def kX5_append (x : TS) (a1 : Int32) : Prop := if (pX5_isFull x) = true then (True) else (vp_in x.1 150)
abbrev rX5_append : Room := { frames := 1, cells := 0, slots := 0, locals := 20 }
