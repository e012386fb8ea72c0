noncomputable def pX11_mix (a1 : Int64) (a2 : Int64) : Int64 := (31 * a1) + a2
abbrev rX11_mix : Room := { frames := 0, cells := 0, slots := 0, locals := 0 }
