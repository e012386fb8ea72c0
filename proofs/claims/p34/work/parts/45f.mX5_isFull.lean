noncomputable def pX5_isFull (x : TS) : Bool := if x.1 < 150 then (false) else (true)
abbrev rX5_isFull : Room := { frames := 0, cells := 0, slots := 0, locals := 0 }
