noncomputable def pX4_isLetter (a1 : Int32) : Bool := pX11_isBetween a1 97 122
abbrev rX4_isLetter : Room := { frames := 1, cells := 0, slots := 0, locals := 22 }
