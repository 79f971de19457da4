theorem kv74 : (e_X8_spanningTrees (nI kg10.1) (nI kg10.2.length) (cF kg10) (cS kg10) (cN kg10) z3 z3).map (fun q => q.1) = some (nI 0) := by decide +kernel
