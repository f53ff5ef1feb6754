/-! image and back of the reference: what lies around the loops (printed by wip/chk/fib2.py) -/
set_option maxRecDepth 1000000
abbrev W204 : aW := [(204, 1000)]
abbrev W0 : aW := []
def iA0A : aL := ((0, [(0, .inl [170]), (1, .inr (.inl (.inl 0)))], [], [], [(0, 1), (0, 1), (0, 1), (0, 1)], [.inr (.inr (.inl (204, 0, .inr (0, 1, 0)))), .inr (.inr (.inl (204, 1, .inr (0, 1, 1)))), .inr (.inr (.inl (204, 2, .inr (0, 1, 2)))), .inr (.inr (.inl (204, 3, .inr (0, 1, 3))))]), (.inl 1, .inl 0, .inl 0))
def iA0T : List aL := [((23, [(0, .inl [170]), (1, .inr (.inl (.inl 0))), (2, .inr (.inl (.inl 0)))], [], [], [(0, 1), (0, 1), (0, 1), (0, 1)], [.inr (.inr (.inl (204, 0, .inl 1))), .inr (.inr (.inl (204, 1, .inr (0, 1, 1)))), .inr (.inr (.inl (204, 2, .inr (0, 1, 2)))), .inr (.inr (.inl (204, 3, .inr (0, 1, 3))))]), (.inl 0, .inl 0, .inl 0))]
def iA0U : List aU := []
set_option maxRecDepth 1000000 in
theorem iA0_k : chkL P39f W204 (mkQ P39f W204 [] 3000 1) eM188 4 iA0T iA0U 3000 iA0A = true := by decide +kernel
def iA1A : aL := ((0, [(0, .inl [170]), (1, .inr (.inl (.inl 1)))], [], [], [(0, 1), (0, 1), (0, 1), (0, 1)], [.inr (.inr (.inl (204, 0, .inr (0, 1, 0)))), .inr (.inr (.inl (204, 1, .inr (0, 1, 1)))), .inr (.inr (.inl (204, 2, .inr (0, 1, 2)))), .inr (.inr (.inl (204, 3, .inr (0, 1, 3))))]), (.inl 1, .inl 0, .inl 0))
def iA1T : List aL := [((23, [(0, .inl [170]), (1, .inr (.inl (.inl 1))), (2, .inr (.inl (.inl 0)))], [], [], [(0, 1), (0, 1), (0, 1), (0, 1)], [.inr (.inr (.inl (204, 0, .inr (0, 1, 0)))), .inr (.inr (.inl (204, 1, .inl 1))), .inr (.inr (.inl (204, 2, .inr (0, 1, 2)))), .inr (.inr (.inl (204, 3, .inr (0, 1, 3))))]), (.inl 0, .inl 0, .inl 0))]
def iA1U : List aU := []
set_option maxRecDepth 1000000 in
theorem iA1_k : chkL P39f W204 (mkQ P39f W204 [] 3000 1) eM188 4 iA1T iA1U 3000 iA1A = true := by decide +kernel
def iA2A : aL := ((0, [(0, .inl [170]), (1, .inr (.inl (.inl 2)))], [], [], [(0, 1), (0, 1), (0, 1), (0, 1)], [.inr (.inr (.inl (204, 0, .inr (0, 1, 0)))), .inr (.inr (.inl (204, 1, .inr (0, 1, 1)))), .inr (.inr (.inl (204, 2, .inr (0, 1, 2)))), .inr (.inr (.inl (204, 3, .inr (0, 1, 3))))]), (.inl 1, .inl 0, .inl 0))
def iA2T : List aL := [((23, [(0, .inl [170]), (1, .inr (.inl (.inl 2))), (2, .inr (.inl (.inl 0)))], [], [], [(0, 1), (0, 1), (0, 1), (0, 1)], [.inr (.inr (.inl (204, 0, .inr (0, 1, 0)))), .inr (.inr (.inl (204, 1, .inr (0, 1, 1)))), .inr (.inr (.inl (204, 2, .inl 1))), .inr (.inr (.inl (204, 3, .inr (0, 1, 3))))]), (.inl 0, .inl 0, .inl 0))]
def iA2U : List aU := []
set_option maxRecDepth 1000000 in
theorem iA2_k : chkL P39f W204 (mkQ P39f W204 [] 3000 1) eM188 4 iA2T iA2U 3000 iA2A = true := by decide +kernel
def iA3A : aL := ((0, [(0, .inl [170]), (1, .inr (.inl (.inl 3)))], [], [], [(0, 1), (0, 1), (0, 1), (0, 1)], [.inr (.inr (.inl (204, 0, .inr (0, 1, 0)))), .inr (.inr (.inl (204, 1, .inr (0, 1, 1)))), .inr (.inr (.inl (204, 2, .inr (0, 1, 2)))), .inr (.inr (.inl (204, 3, .inr (0, 1, 3))))]), (.inl 1, .inl 0, .inl 0))
def iA3T : List aL := [((23, [(0, .inl [170]), (1, .inr (.inl (.inl 3))), (2, .inr (.inl (.inl 0)))], [], [], [(0, 1), (0, 1), (0, 1), (0, 1)], [.inr (.inr (.inl (204, 0, .inr (0, 1, 0)))), .inr (.inr (.inl (204, 1, .inr (0, 1, 1)))), .inr (.inr (.inl (204, 2, .inr (0, 1, 2)))), .inr (.inr (.inl (204, 3, .inl 1)))]), (.inl 0, .inl 0, .inl 0))]
def iA3U : List aU := []
set_option maxRecDepth 1000000 in
theorem iA3_k : chkL P39f W204 (mkQ P39f W204 [] 3000 1) eM188 4 iA3T iA3U 3000 iA3A = true := by decide +kernel
def iEA : aL := ((54, [(0, .inl [170])], [], [], [], []), (.inl 1, .inl 0, .inl 0))
def iET : List aL := []
def iEU : List aU := [(some (.inr (.inl (.inr (0, 1, 0)))), [], [(0, 30)], [])]
set_option maxRecDepth 1000000 in
theorem iE_k : chkL P39f W0 (mkQ P39f W0 [] 3000 0) eM188 0 iET iEU 3000 iEA = true := by decide +kernel
def bA0A : aL := ((0, [(0, .inl [170]), (1, .inr (.inl (.inl 0)))], [], [], [], [.inr (.inr (.inl (204, 0, .inl 1)))]), (.inl 1, .inl 0, .inl 0))
def bA0T : List aL := [((25, [(0, .inl [170]), (1, .inr (.inl (.inl 0))), (2, .inr (.inl (.inl 0)))], [], [], [], []), (.inl 0, .inl 0, .inl 0))]
def bA0U : List aU := []
set_option maxRecDepth 1000000 in
theorem bA0_k : chkL P39f W0 (mkQ P39f W0 [] 3000 1) eM155 0 bA0T bA0U 3000 bA0A = true := by decide +kernel
def bA1A : aL := ((0, [(0, .inl [170]), (1, .inr (.inl (.inl 1)))], [], [], [], [.inr (.inr (.inl (204, 1, .inl 1)))]), (.inl 1, .inl 0, .inl 0))
def bA1T : List aL := [((25, [(0, .inl [170]), (1, .inr (.inl (.inl 1))), (2, .inr (.inl (.inl 0)))], [], [], [], []), (.inl 0, .inl 0, .inl 0))]
def bA1U : List aU := []
set_option maxRecDepth 1000000 in
theorem bA1_k : chkL P39f W0 (mkQ P39f W0 [] 3000 1) eM155 0 bA1T bA1U 3000 bA1A = true := by decide +kernel
def bA2A : aL := ((0, [(0, .inl [170]), (1, .inr (.inl (.inl 2)))], [], [], [], [.inr (.inr (.inl (204, 2, .inl 1)))]), (.inl 1, .inl 0, .inl 0))
def bA2T : List aL := [((25, [(0, .inl [170]), (1, .inr (.inl (.inl 2))), (2, .inr (.inl (.inl 0)))], [], [], [], []), (.inl 0, .inl 0, .inl 0))]
def bA2U : List aU := []
set_option maxRecDepth 1000000 in
theorem bA2_k : chkL P39f W0 (mkQ P39f W0 [] 3000 1) eM155 0 bA2T bA2U 3000 bA2A = true := by decide +kernel
def bA3A : aL := ((0, [(0, .inl [170]), (1, .inr (.inl (.inl 3)))], [], [], [], [.inr (.inr (.inl (204, 3, .inl 1)))]), (.inl 1, .inl 0, .inl 0))
def bA3T : List aL := [((25, [(0, .inl [170]), (1, .inr (.inl (.inl 3))), (2, .inr (.inl (.inl 0)))], [], [], [], []), (.inl 0, .inl 0, .inl 0))]
def bA3U : List aU := []
set_option maxRecDepth 1000000 in
theorem bA3_k : chkL P39f W0 (mkQ P39f W0 [] 3000 1) eM155 0 bA3T bA3U 3000 bA3A = true := by decide +kernel
def bEA : aL := ((56, [(0, .inl [170])], [], [], [], []), (.inl 1, .inl 0, .inl 0))
def bET : List aL := []
def bEU : List aU := [(some (.inr (.inl (.inr (0, 1, 0)))), [], [(0, 30)], [])]
set_option maxRecDepth 1000000 in
theorem bE_k : chkL P39f W0 (mkQ P39f W0 [] 3000 0) eM155 0 bET bEU 3000 bEA = true := by decide +kernel
