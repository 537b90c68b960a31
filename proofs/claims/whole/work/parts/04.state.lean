/-! what a state of either object is: its cells, out of the numbers that we speak of -/
abbrev ar_ (q : Nat) (cA : ClassId) (n : Nat) (f : Nat → Int32) : Nat × va_E := (q, .inl (cA, n, .inl f))
abbrev oX_ (h0 hd hp d N w nw sz u : Nat) (kr dn lf : Int32) (dw : Bool) : Nat × va_E := (h0, .inr (0, [.int (nI d), .int (nI N), .int (nI w), .int (nI nw), .int (nI sz), .ref hd, .ref hp, .int (nI u), .int kr, .int dn, .int lf, .int (hs_b dw)]))
abbrev oM_ (h0 hd hp d N w nw sz u : Nat) (kr dn lf : Int32) (dw : Bool) : Nat × va_E := (h0, .inr (1, [.int (nI d), .int (nI N), .int (nI w), .int (nI sz), .ref hd, .ref hp, .int (nI u), .int kr, .int dn, .int lf, .int (hs_b dw)]))
abbrev wfX (h0 hd hp : Nat) (cA : ClassId) (d N w nw sz : Nat) (x : hs_S × (Nat → Int32)) : va_W := [oX_ h0 hd hp d N w nw sz x.1.2.1 x.1.2.2.1 x.1.2.2.2.1 x.1.2.2.2.2.1 x.1.2.2.2.2.2, ar_ hd cA (2 * sz) x.1.1, ar_ hp cA sz x.2]
abbrev wfM (h0 hd hp : Nat) (cA : ClassId) (d N w nw sz : Nat) (x : hs_S × (Nat → Int32)) : va_W := [oM_ h0 hd hp d N w nw sz x.1.2.1 x.1.2.2.1 x.1.2.2.2.1 x.1.2.2.2.2.1 x.1.2.2.2.2.2, ar_ hd cA 600 x.1.1, ar_ hp cA 300 x.2]
