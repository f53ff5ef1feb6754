def jE : aL := ((0, [(0, .inl [80, 85, 90, 95, 100, 105]), (1, .inr (.inl (.inr (0, 1, 0)))), (2, .inr (.inl (.inr (0, 1, 1)))), (3, .inl [122])], [], [], [(0, 400), (0, 400)], []), (.inl 1000, .inl 0, .inl 0))
def j6 : aL := ((6, [(0, .inl [80, 85, 90, 95, 100, 105]), (1, .inr (.inl (.inr (0, 1, 0)))), (2, .inr (.inl (.inr (0, 1, 1)))), (3, .inl [122]), (4, .inr (.inl (.inr (0, 1, 2)))), (5, .inr (.inl (.inr (0, 1, 3))))], [], [], [(0, 400), (0, 400), (0, 64), (0, 400)], []), (.inr (801, (-2), 3), .inl 0, .inl 0))
def jX : aL := ((160, [(0, .inl [80, 85, 90, 95, 100, 105]), (4, .inr (.inl (.inr (0, 1, 2))))], [], [], [(0, 400), (0, 400), (0, 64)], []), (.inl 0, .inl 0, .inl 0))
def jA0 : aL := ((35, [(0, .inl [80, 85, 90, 95, 100, 105]), (1, .inr (.inl (.inr (0, 1, 0)))), (2, .inr (.inl (.inr (0, 1, 1)))), (3, .inl [122]), (4, .inr (.inl (.inr (0, 1, 2)))), (5, .inr (.inl (.inr (0, 1, 3)))), (6, .inr (.inl (.inr (0, 1, 4)))), (7, .inr (.inl (.inl 0)))], [], [], [(0, 400), (0, 400), (0, 64), (0, 399), ((-2147483648), 2147483647)], []), (.inr (800, (-2), 3), .inl 0, .inl 0))
def jA2 : aL := ((35, [(0, .inl [80, 85, 90, 95, 100, 105]), (1, .inr (.inl (.inr (0, 1, 0)))), (2, .inr (.inl (.inr (0, 1, 1)))), (3, .inl [122]), (4, .inr (.inl (.inr (0, 1, 2)))), (5, .inr (.inl (.inr (0, 1, 3)))), (6, .inr (.inl (.inr (0, 1, 4)))), (7, .inr (.inl (.inr (0, 1, 5))))], [], [], [(0, 400), (0, 400), (0, 64), (0, 399), ((-2147483648), 2147483647), (2, 31)], []), (.inr (800, (-2), 3), .inl 0, .inl 0))
def jB : aL := ((35, [(0, .inl [80, 85, 90, 95, 100, 105]), (1, .inr (.inl (.inr (0, 1, 0)))), (2, .inr (.inl (.inr (0, 1, 1)))), (3, .inl [122]), (4, .inr (.inl (.inr (0, 1, 2)))), (5, .inr (.inl (.inr (0, 1, 3)))), (6, .inr (.inl (.inr (0, 1, 4)))), (7, .inr (.inl (.inl 1)))], [], [], [(0, 400), (0, 400), (0, 64), (0, 399), (0, 8)], []), (.inr (800, (-2), 3), .inl 0, .inl 0))
def jLs : List aL := [jE, j6, jX, jA0, jA2, jB]
def jO : List aU := [(some (.inr (.inl (.inr (0, 1, 2)))), [], [(0, 400), (0, 400), (0, 1)], [])]
def jW : aW := [(84, 1000), (89, 1000), (94, 1000), (99, 1000), (104, 1000), (109, 1000)]
set_option maxRecDepth 1000000 in
theorem jE_k : chkL P39 jW (mkQ P39 jW [] 3000 1) eM6 2 jLs jO 3000 jE = true := by decide +kernel
set_option maxRecDepth 1000000 in
theorem jX_k : chkL P39 jW (mkQ P39 jW [] 3000 1) eM6 2 jLs jO 3000 jX = true := by decide +kernel
set_option maxRecDepth 1000000 in
theorem jA0_k : chkL P39 jW (mkQ P39 jW [] 3000 1) eM6 2 jLs jO 3000 jA0 = true := by decide +kernel
set_option maxRecDepth 1000000 in
theorem jA2_k : chkL P39 jW (mkQ P39 jW [] 3000 1) eM6 2 jLs jO 3000 jA2 = true := by decide +kernel
set_option maxRecDepth 1000000 in
theorem jB_k : chkL P39 jW (mkQ P39 jW [] 3000 1) eM6 2 jLs jO 3000 jB = true := by decide +kernel
def jC : aN := (6, [.inl [80, 85, 90, 95, 100, 105], .inr (.inl (.inr (0, 1, 0))), .inr (.inl (.inr (0, 1, 1))), .inl [122]], [], [(0, 400), (0, 400)], [], jW, jO)
