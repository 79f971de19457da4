theorem kv75 : (e_X8_components (nI kg10.1) (nI kg10.2.length) (cF kg10) (cS kg10) (cN kg10) z3 z3).map (fun q => q.1) = some (nI 3) := by decide +kernel
