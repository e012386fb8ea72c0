noncomputable def pX5_empty (x : TS) : Int32 × TS := lt (x.1) fun (x1 : Int32) => lt ((0, x.2)) fun (x_2 : TS) => (x1, x_2)
abbrev rX5_empty : Room := { frames := 0, cells := 0, slots := 0, locals := 0 }
