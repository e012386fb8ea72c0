noncomputable def pX4_isDigit (a1 : Int32) : Bool := pX11_isBetween a1 48 57
abbrev rX4_isDigit : Room := { frames := 1, cells := 0, slots := 0, locals := 22 }
