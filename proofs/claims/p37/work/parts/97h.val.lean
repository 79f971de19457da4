/-! values of known graphs, by the kernel -/
abbrev kg0 : AG := (1, [])
theorem vkg0 : VG kg0 := by unfold VG; decide +kernel
theorem kv0 : (e_X8_vertexCoefficient (nI 2) (nI kg0.1) (nI kg0.2.length) (cF kg0) (cS kg0) z6 (fun _ => z6)).map (fun q => q.1) = some (-1 : Int64) := by decide +kernel
theorem kv1 : (e_X8_bassCoefficient (nI 0) (nI kg0.1) (nI kg0.2.length) (cF kg0) (cS kg0) z6 (fun _ => z6)).map (fun q => q.1) = some (1 : Int64) := by decide +kernel
theorem kv2 : (e_X8_bassCoefficient (nI 2) (nI kg0.1) (nI kg0.2.length) (cF kg0) (cS kg0) z6 (fun _ => z6)).map (fun q => q.1) = some (0 : Int64) := by decide +kernel
theorem kv3 : (e_X8_spanningTrees (nI kg0.1) (nI kg0.2.length) (cF kg0) (cS kg0) (cN kg0) z3 z3).map (fun q => q.1) = some (nI 1) := by decide +kernel
theorem kv4 : (e_X8_components (nI kg0.1) (nI kg0.2.length) (cF kg0) (cS kg0) (cN kg0) z3 z3).map (fun q => q.1) = some (nI 1) := by decide +kernel
theorem kv5 : (e_X8_isBalanced (nI kg0.1) (nI kg0.2.length) (cF kg0) (cS kg0) (cN kg0) z3 z3).map (fun q => q.1) = some (nI 1) := by decide +kernel
abbrev kg1 : AG := (2, [(0, 1, false), (0, 1, true), (0, 1, false)])
theorem vkg1 : VG kg1 := by unfold VG; decide +kernel
theorem kv6 : (e_X8_walks (nI 2) (nI kg1.1) (nI kg1.2.length) (cF kg1) (cS kg1) (cN kg1) z6 z6 z6).map (fun q => q.1) = some (12 : Int64) := by decide +kernel
theorem kv7 : (e_X8_signedWalks (nI 2) (nI kg1.1) (nI kg1.2.length) (cF kg1) (cS kg1) (cN kg1) z6 z6 z6).map (fun q => q.1) = some (-4 : Int64) := by decide +kernel
theorem kv8 : (e_X8_primes (nI 2) (nI kg1.1) (nI kg1.2.length) (cF kg1) (cS kg1) (cN kg1) z6 z6 z6 z6).map (fun q => q.1) = some (6 : Int64) := by decide +kernel
theorem kv9 : (e_X8_positivePrimes (nI 2) (nI kg1.1) (nI kg1.2.length) (cF kg1) (cS kg1) (cN kg1) z6 z6 z6 z6 z6 z6).map (fun q => q.1) = some (2 : Int64) := by decide +kernel
theorem kv10 : (e_X8_taylorAtOne (nI 2) (nI kg1.1) (nI kg1.2.length) (cF kg1) (cS kg1) (cN kg1) z6 z6 z6 z6 z6).map (fun q => q.1) = some (-12 : Int64) := by decide +kernel
theorem kv11 : (e_X8_taylorAtOne (nI 1) (nI kg1.1) (nI kg1.2.length) (cF kg1) (cS kg1) (cN kg1) z6 z6 z6 z6 z6).map (fun q => q.1) = some (0 : Int64) := by decide +kernel
theorem kv12 : (e_X8_spanningTrees (nI kg1.1) (nI kg1.2.length) (cF kg1) (cS kg1) (cN kg1) z3 z3).map (fun q => q.1) = some (nI 3) := by decide +kernel
theorem kv13 : (e_X8_period (nI kg1.1) (nI kg1.2.length) (cF kg1) (cS kg1) (cN kg1) z6 z6 z6 z6).map (fun q => q.1) = some (nI 2) := by decide +kernel
theorem kv14 : (e_X8_edgeDegree (nI kg1.1) (nI kg1.2.length) (cF kg1) (cS kg1) (cN kg1) z6 z6 z6 z6).map (fun q => q.1) = some (nI 6) := by decide +kernel
theorem kv15 : (e_X8_primeEdge (nI 2) (nI 4) (nI 0) (nI kg1.1) (nI kg1.2.length) (cF kg1) (cS kg1) (cN kg1) (nI 0) z3).map (fun q => q.1) = some (nI 2) := by decide +kernel
theorem kv16 : (e_X8_primeEdge (nI 2) (nI 4) (nI 1) (nI kg1.1) (nI kg1.2.length) (cF kg1) (cS kg1) (cN kg1) (nI 0) z3).map (fun q => q.1) = some (nI 5) := by decide +kernel
theorem kv17 : (e_X8_primeSign (nI 2) (nI 1) (nI kg1.1) (nI kg1.2.length) (cF kg1) (cS kg1) (cN kg1) (nI 0) z3).map (fun q => q.1) = some (nI 1) := by decide +kernel
theorem kv18 : (e_X8_primeSign (nI 2) (nI 0) (nI kg1.1) (nI kg1.2.length) (cF kg1) (cS kg1) (cN kg1) (nI 0) z3).map (fun q => q.1) = some (nI 4294967295) := by decide +kernel
theorem kv19 : (e_X8_primeEdge (nI 2) (nI 6) (nI 1) (nI kg1.1) (nI kg1.2.length) (cF kg1) (cS kg1) (cN kg1) (nI 0) z3).map (fun q => q.1) = some (nI 4294967287) := by decide +kernel
abbrev kg2 : AG := (2, [])
theorem vkg2 : VG kg2 := by unfold VG; decide +kernel
abbrev kg3 : AG := (2, [(0, 1, false)])
theorem vkg3 : VG kg3 := by unfold VG; decide +kernel
abbrev kg4 : AG := (2, [(0, 1, false), (0, 1, true)])
theorem vkg4 : VG kg4 := by unfold VG; decide +kernel
theorem kv20 : (e_X8_edgeCoefficient (nI 2) (nI kg1.1) (nI kg1.2.length) (cF kg1) (cS kg1) (cN kg1) z6 z6 z6 z6).map (fun q => q.1) = some (-6 : Int64) := by decide +kernel
theorem kv21 : (e_X8_edgeCoefficient (nI 4) (nI kg1.1) (nI kg1.2.length) (cF kg1) (cS kg1) (cN kg1) z6 z6 z6 z6).map (fun q => q.1) = some (9 : Int64) := by decide +kernel
theorem kv22 : (e_X8_edgeCoefficient (nI 6) (nI kg1.1) (nI kg1.2.length) (cF kg1) (cS kg1) (cN kg1) z6 z6 z6 z6).map (fun q => q.1) = some (-4 : Int64) := by decide +kernel
theorem kv23 : (e_X8_vertexCoefficient (nI 2) (nI kg1.1) (nI kg1.2.length) (cF kg1) (cS kg1) z6 (fun _ => z6)).map (fun q => q.1) = some (-5 : Int64) := by decide +kernel
theorem kv24 : (e_X8_vertexCoefficient (nI 4) (nI kg1.1) (nI kg1.2.length) (cF kg1) (cS kg1) z6 (fun _ => z6)).map (fun q => q.1) = some (4 : Int64) := by decide +kernel
theorem kv25 : (e_X8_edgeValue (nI 2) (nI kg1.1) (nI kg1.2.length) (cF kg1) (cS kg1) (cN kg1) z6 z6 z6 z6).map (fun q => q.1) = some (-135 : Int64) := by decide +kernel
abbrev kg5 : AG := (3, [(0, 1, false), (2, 1, false), (2, 0, true)])
theorem vkg5 : VG kg5 := by unfold VG; decide +kernel
theorem kv26 : (e_X8_primeEdge (nI 3) (nI 0) (nI 0) (nI kg5.1) (nI kg5.2.length) (cF kg5) (cS kg5) (cN kg5) (nI 0) z3).map (fun q => q.1) = some (nI 0) := by decide +kernel
theorem kv27 : (e_X8_primeEdge (nI 3) (nI 0) (nI 1) (nI kg5.1) (nI kg5.2.length) (cF kg5) (cS kg5) (cN kg5) (nI 0) z3).map (fun q => q.1) = some (nI 3) := by decide +kernel
theorem kv28 : (e_X8_primeEdge (nI 3) (nI 0) (nI 2) (nI kg5.1) (nI kg5.2.length) (cF kg5) (cS kg5) (cN kg5) (nI 0) z3).map (fun q => q.1) = some (nI 4) := by decide +kernel
theorem kv29 : (e_X8_primeEdge (nI 3) (nI 1) (nI 0) (nI kg5.1) (nI kg5.2.length) (cF kg5) (cS kg5) (cN kg5) (nI 0) z3).map (fun q => q.1) = some (nI 1) := by decide +kernel
theorem kv30 : (e_X8_primeEdge (nI 3) (nI 1) (nI 1) (nI kg5.1) (nI kg5.2.length) (cF kg5) (cS kg5) (cN kg5) (nI 0) z3).map (fun q => q.1) = some (nI 5) := by decide +kernel
theorem kv31 : (e_X8_primeEdge (nI 3) (nI 1) (nI 2) (nI kg5.1) (nI kg5.2.length) (cF kg5) (cS kg5) (cN kg5) (nI 0) z3).map (fun q => q.1) = some (nI 2) := by decide +kernel
theorem kv32 : (e_X8_primeSign (nI 3) (nI 1) (nI kg5.1) (nI kg5.2.length) (cF kg5) (cS kg5) (cN kg5) (nI 0) z3).map (fun q => q.1) = some (nI 4294967295) := by decide +kernel
theorem kv33 : (e_X8_primeEdge (nI 3) (nI 2) (nI 0) (nI kg5.1) (nI kg5.2.length) (cF kg5) (cS kg5) (cN kg5) (nI 0) z3).map (fun q => q.1) = some (nI 4294967287) := by decide +kernel
theorem kv34 : (e_X8_primeSign (nI 3) (nI 2) (nI kg5.1) (nI kg5.2.length) (cF kg5) (cS kg5) (cN kg5) (nI 0) z3).map (fun q => q.1) = some (nI 0) := by decide +kernel
theorem kv35 : (e_X8_walks (nI 3) (nI kg5.1) (nI kg5.2.length) (cF kg5) (cS kg5) (cN kg5) z6 z6 z6).map (fun q => q.1) = some (6 : Int64) := by decide +kernel
theorem kv36 : (e_X8_signedWalks (nI 3) (nI kg5.1) (nI kg5.2.length) (cF kg5) (cS kg5) (cN kg5) z6 z6 z6).map (fun q => q.1) = some (-6 : Int64) := by decide +kernel
theorem kv37 : (e_X8_coverWalks (nI 3) (nI kg5.1) (nI kg5.2.length) (cF kg5) (cS kg5) (cN kg5) z6 z6 z6 z6).map (fun q => q.1) = some (0 : Int64) := by decide +kernel
theorem kv38 : (e_X8_coverWalks (nI 6) (nI kg5.1) (nI kg5.2.length) (cF kg5) (cS kg5) (cN kg5) z6 z6 z6 z6).map (fun q => q.1) = some (12 : Int64) := by decide +kernel
theorem kv39 : (e_X8_primes (nI 3) (nI kg5.1) (nI kg5.2.length) (cF kg5) (cS kg5) (cN kg5) z6 z6 z6 z6).map (fun q => q.1) = some (2 : Int64) := by decide +kernel
theorem kv40 : (e_X8_positivePrimes (nI 3) (nI kg5.1) (nI kg5.2.length) (cF kg5) (cS kg5) (cN kg5) z6 z6 z6 z6 z6 z6).map (fun q => q.1) = some (0 : Int64) := by decide +kernel
theorem kv41 : (e_X8_primes (nI 6) (nI kg5.1) (nI kg5.2.length) (cF kg5) (cS kg5) (cN kg5) z6 z6 z6 z6).map (fun q => q.1) = some (0 : Int64) := by decide +kernel
theorem kv42 : (e_X8_girth (nI kg5.1) (nI kg5.2.length) (cF kg5) (cS kg5) (cN kg5) z6 z6 z6 z6).map (fun q => q.1) = some (nI 3) := by decide +kernel
theorem kv43 : (e_X8_period (nI kg5.1) (nI kg5.2.length) (cF kg5) (cS kg5) (cN kg5) z6 z6 z6 z6).map (fun q => q.1) = some (nI 3) := by decide +kernel
theorem kv44 : (e_X8_spanningTrees (nI kg5.1) (nI kg5.2.length) (cF kg5) (cS kg5) (cN kg5) z3 z3).map (fun q => q.1) = some (nI 3) := by decide +kernel
theorem kv45 : (e_X8_isBalanced (nI kg5.1) (nI kg5.2.length) (cF kg5) (cS kg5) (cN kg5) z3 z3).map (fun q => q.1) = some (nI 0) := by decide +kernel
theorem kv46 : (e_X8_taylorAtOne (nI 1) (nI kg5.1) (nI kg5.2.length) (cF kg5) (cS kg5) (cN kg5) z6 z6 z6 z6 z6).map (fun q => q.1) = some (0 : Int64) := by decide +kernel
theorem kv47 : (e_X8_taylorAtOne (nI 2) (nI kg5.1) (nI kg5.2.length) (cF kg5) (cS kg5) (cN kg5) z6 z6 z6 z6 z6).map (fun q => q.1) = some (9 : Int64) := by decide +kernel
theorem kv48 : (e_X8_edgeCoefficient (nI 3) (nI kg5.1) (nI kg5.2.length) (cF kg5) (cS kg5) (cN kg5) z6 z6 z6 z6).map (fun q => q.1) = some (-2 : Int64) := by decide +kernel
theorem kv49 : (e_X8_edgeCoefficient (nI 6) (nI kg5.1) (nI kg5.2.length) (cF kg5) (cS kg5) (cN kg5) z6 z6 z6 z6).map (fun q => q.1) = some (1 : Int64) := by decide +kernel
theorem kv50 : (e_X8_edgeCoefficient (nI 9) (nI kg5.1) (nI kg5.2.length) (cF kg5) (cS kg5) (cN kg5) z6 z6 z6 z6).map (fun q => q.1) = some (0 : Int64) := by decide +kernel
theorem kv51 : (e_X8_signedCoefficient (nI 3) (nI kg5.1) (nI kg5.2.length) (cF kg5) (cS kg5) (cN kg5) z6 z6 z6 z6).map (fun q => q.1) = some (2 : Int64) := by decide +kernel
theorem kv52 : (e_X8_zetaCoefficient (nI 12) (nI kg5.1) (nI kg5.2.length) (cF kg5) (cS kg5) (cN kg5) z6 z6 z6 z6 z6).map (fun q => q.1) = some (5 : Int64) := by decide +kernel
theorem kv53 : (e_X8_zetaCoefficient (nI 11) (nI kg5.1) (nI kg5.2.length) (cF kg5) (cS kg5) (cN kg5) z6 z6 z6 z6 z6).map (fun q => q.1) = some (0 : Int64) := by decide +kernel
theorem kv54 : (e_X8_edgeValue (nI 2) (nI kg5.1) (nI kg5.2.length) (cF kg5) (cS kg5) (cN kg5) z6 z6 z6 z6).map (fun q => q.1) = some (49 : Int64) := by decide +kernel
theorem kv55 : (e_X8_edgeValue (nI 4294967295) (nI kg5.1) (nI kg5.2.length) (cF kg5) (cS kg5) (cN kg5) z6 z6 z6 z6).map (fun q => q.1) = some (4 : Int64) := by decide +kernel
theorem kv56 : (e_X8_edgeValue (nI 4294967294) (nI kg5.1) (nI kg5.2.length) (cF kg5) (cS kg5) (cN kg5) z6 z6 z6 z6).map (fun q => q.1) = some (81 : Int64) := by decide +kernel
theorem kv57 : (e_X8_edgeValue (nI 0) (nI kg5.1) (nI kg5.2.length) (cF kg5) (cS kg5) (cN kg5) z6 z6 z6 z6).map (fun q => q.1) = some (1 : Int64) := by decide +kernel
abbrev kg6 : AG := (3, [(0, 1, false)])
theorem vkg6 : VG kg6 := by unfold VG; decide +kernel
abbrev kg7 : AG := (3, [(0, 1, false), (2, 1, false)])
theorem vkg7 : VG kg7 := by unfold VG; decide +kernel
theorem kv58 : (e_X8_spanningTrees (nI kg7.1) (nI kg7.2.length) (cF kg7) (cS kg7) (cN kg7) z3 z3).map (fun q => q.1) = some (nI 1) := by decide +kernel
theorem kv59 : (e_X8_rank (nI kg7.1) (nI kg7.2.length) (cF kg7) (cS kg7) (cN kg7) z3 z3).map (fun q => q.1) = some (nI 0) := by decide +kernel
abbrev kg8 : AG := (3, [])
theorem vkg8 : VG kg8 := by unfold VG; decide +kernel
theorem kv60 : (e_X8_girth (nI kg8.1) (nI kg8.2.length) (cF kg8) (cS kg8) (cN kg8) z6 z6 z6 z6).map (fun q => q.1) = some (nI 4294967287) := by decide +kernel
theorem kv61 : (e_X8_period (nI kg8.1) (nI kg8.2.length) (cF kg8) (cS kg8) (cN kg8) z6 z6 z6 z6).map (fun q => q.1) = some (nI 4294967287) := by decide +kernel
theorem kv62 : (e_X8_edgeCoefficient (nI 0) (nI kg8.1) (nI kg8.2.length) (cF kg8) (cS kg8) (cN kg8) z6 z6 z6 z6).map (fun q => q.1) = some (1 : Int64) := by decide +kernel
theorem kv63 : (e_X8_vertexCoefficient (nI 6) (nI kg8.1) (nI kg8.2.length) (cF kg8) (cS kg8) z6 (fun _ => z6)).map (fun q => q.1) = some (-1 : Int64) := by decide +kernel
theorem kv64 : (e_X8_bassCoefficient (nI 0) (nI kg8.1) (nI kg8.2.length) (cF kg8) (cS kg8) z6 (fun _ => z6)).map (fun q => q.1) = some (1 : Int64) := by decide +kernel
theorem kv65 : (e_X8_bassCoefficient (nI 2) (nI kg8.1) (nI kg8.2.length) (cF kg8) (cS kg8) z6 (fun _ => z6)).map (fun q => q.1) = some (0 : Int64) := by decide +kernel
theorem kv66 : (e_X8_edgeDegree (nI kg8.1) (nI kg8.2.length) (cF kg8) (cS kg8) (cN kg8) z6 z6 z6 z6).map (fun q => q.1) = some (nI 0) := by decide +kernel
theorem kv67 : (e_X8_isBalanced (nI kg8.1) (nI kg8.2.length) (cF kg8) (cS kg8) (cN kg8) z3 z3).map (fun q => q.1) = some (nI 1) := by decide +kernel
theorem kv68 : (e_X8_components (nI kg8.1) (nI kg8.2.length) (cF kg8) (cS kg8) (cN kg8) z3 z3).map (fun q => q.1) = some (nI 3) := by decide +kernel
theorem kv69 : (e_X8_rank (nI kg8.1) (nI kg8.2.length) (cF kg8) (cS kg8) (cN kg8) z3 z3).map (fun q => q.1) = some (nI 0) := by decide +kernel
theorem kv70 : (e_X8_walks (nI 18) (nI kg8.1) (nI kg8.2.length) (cF kg8) (cS kg8) (cN kg8) z6 z6 z6).map (fun q => q.1) = some (0 : Int64) := by decide +kernel
abbrev kg9 : AG := (4, [])
theorem vkg9 : VG kg9 := by unfold VG; decide +kernel
abbrev kg10 : AG := (4, [(0, 1, false), (0, 1, false), (0, 1, false), (0, 1, false), (0, 1, false), (0, 1, false), (0, 1, false), (0, 1, false), (0, 1, false)])
theorem vkg10 : VG kg10 := by unfold VG; decide +kernel
abbrev kg11 : AG := (4, [(0, 1, false), (1, 2, true), (2, 0, false)])
theorem vkg11 : VG kg11 := by unfold VG; decide +kernel
theorem kv76 : (e_X8_headOf (nI 2) (nI kg11.1) (nI kg11.2.length) (cF kg11) (cS kg11)).map (fun q => q) = some (nI 2) := by decide +kernel
theorem kv77 : (e_X8_headOf (nI 5) (nI kg11.1) (nI kg11.2.length) (cF kg11) (cS kg11)).map (fun q => q) = some (nI 2) := by decide +kernel
theorem kv78 : (e_X8_signedWalks (nI 3) (nI kg11.1) (nI kg11.2.length) (cF kg11) (cS kg11) (cN kg11) z6 z6 z6).map (fun q => q.1) = some (-6 : Int64) := by decide +kernel
