def hE : aL := ((0, [(0, .inl [170]), (1, .inr (.inl (.inr (0, 1, 0)))), (2, .inr (.inl (.inr (0, 1, 1)))), (3, .inr (.inl (.inr (0, 1, 2))))], [], [], [(0, 5), (0, 1), (0, 1)], []), (.inl 100, .inl 0, .inl 0))
def h6 : aL := ((6, [(0, .inl [170]), (1, .inr (.inl (.inr (0, 1, 0)))), (2, .inr (.inl (.inr (0, 1, 1)))), (3, .inr (.inl (.inr (0, 1, 2)))), (4, .inr (.inl (.inr (0, 1, 3)))), (5, .inr (.inl (.inr (0, 1, 4))))], [], [], [(0, 5), (0, 1), (0, 1), (0, 1), (0, 12)], []), (.inr (25, (-2), 4), .inl 0, .inl 0))
def h81 : aL := ((81, [(3, .inr (.inl (.inr (0, 1, 2)))), (4, .inr (.inl (.inr (0, 1, 3))))], [], [], [(0, 5), (0, 1), (0, 1), (0, 1)], []), (.inl 0, .inl 0, .inl 0))
def h75 : aL := ((75, [(0, .inl [170]), (1, .inr (.inl (.inr (0, 1, 0)))), (2, .inr (.inl (.inr (0, 1, 1)))), (3, .inr (.inl (.inr (0, 1, 2)))), (4, .inr (.inl (.inr (0, 1, 3)))), (5, .inr (.inl (.inr (0, 1, 4))))], [], [], [(0, 5), (0, 1), (0, 1), (0, 1), (0, 11)], []), (.inr (24, (-2), 4), .inl 0, .inl 0))
def h68 : aL := ((68, [(0, .inl [170]), (1, .inr (.inl (.inr (0, 1, 0)))), (2, .inr (.inl (.inr (0, 1, 1)))), (3, .inr (.inl (.inr (0, 1, 2)))), (4, .inr (.inl (.inl 1))), (5, .inr (.inl (.inr (0, 1, 3))))], [.inr (.inr (.inl (.inr (0, 1, 4))))], [], [(0, 5), (0, 1), (0, 1), (0, 11), ((-9223372036854775808), 9223372036854775807)], []), (.inr (24, (-2), 3), .inl 1, .inl 0))
def hLs : List aL := [hE, h6, h81, h75, h68]
def hO9 : List aU := [(some (.inr (.inl (.inr (0, 1, 3)))), [], [(0, 5), (0, 1), (0, 1), (0, 1)], [])]
set_option maxRecDepth 1000000 in
theorem hE_k : chkL P39 rkW (mkQ P39 rkW [] 3000 0) eM195 3 hLs hO9 3000 hE = true := by decide +kernel
set_option maxRecDepth 1000000 in
theorem h81_k : chkL P39 rkW (mkQ P39 rkW [] 3000 0) eM195 3 hLs hO9 3000 h81 = true := by decide +kernel
set_option maxRecDepth 1000000 in
theorem h75_k : chkL P39 rkW (mkQ P39 rkW [] 3000 0) eM195 3 hLs hO9 3000 h75 = true := by decide +kernel
set_option maxRecDepth 1000000 in
theorem h68_k : chkL P39 rkW (mkQ P39 rkW [] 3000 0) eM195 3 hLs hO9 3000 h68 = true := by decide +kernel
def hCN : aN := (195, [.inl [170], .inr (.inl (.inr (0, 1, 0))), .inr (.inl (.inr (0, 1, 1))), .inr (.inl (.inr (0, 1, 2)))], [], [(0, 5), (0, 1), (0, 1)], [], rkW, hO9)
