noncomputable def pX5_byteAt (x : TS) (a1 : Int32) : Int32 := if (pX11_isBetween a1 0 149) = true then (x.2 a1.toNatClampNeg) else ((-1000000000))
def kX5_byteAt (x : TS) (a1 : Int32) : Prop := if (pX11_isBetween a1 0 149) = true then (vp_in a1 150) else (True)
abbrev rX5_byteAt : Room := { frames := 1, cells := 0, slots := 0, locals := 22 }
