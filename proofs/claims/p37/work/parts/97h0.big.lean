theorem kv71 : (e_X8_walks (nI 2) (nI kg10.1) (nI kg10.2.length) (cF kg10) (cS kg10) (cN kg10) z6 z6 z6).map (fun q => q.1) = some (144 : Int64) := by decide +kernel
