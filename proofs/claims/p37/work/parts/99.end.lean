def fl (l : List Nat) : Nat → Int32 := fun k => nI (l.getD k 0)
def z6 : Nat → Int64 := fun _ => 0
def z3 : Nat → Int32 := fun _ => 0
theorem tst2 : (e_X8_walks (nI 18) (nI 4) (nI 9) (fl [0,0,0,0,0,0,0,0,0]) (fl [1,1,1,1,1,1,1,1,1]) (fl [1,1,1,1,1,1,1,1,1]) z6 z6 z6).map (·.1) = some 36028797018963984 := by decide +kernel
