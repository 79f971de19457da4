def fl (l : List Nat) : Nat → Int32 := fun k => nI (l.getD k 0)
def z6 : Nat → Int64 := fun _ => 0
theorem tst1 : (e_X8_walks (nI 3) (nI 3) (nI 3) (fl [0,2,2]) (fl [1,1,0]) (fl [1,1,4294967295]) z6 z6 z6).map (·.1) = some 6 := by decide +kernel
