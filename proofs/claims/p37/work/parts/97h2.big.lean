theorem kv73 : (e_X8_edgeDegree (nI kg10.1) (nI kg10.2.length) (cF kg10) (cS kg10) (cN kg10) z6 z6 z6 z6).map (fun q => q.1) = some (nI 18) := by decide +kernel
