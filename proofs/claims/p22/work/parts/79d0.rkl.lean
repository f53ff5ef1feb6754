def rkW : aW := [(170, 24), (181, 1000)]
def rk0A : aL := ((0, [(0, .inl [170]), (1, .inr (.inl (.inr (0, 1, 0)))), (2, .inr (.inl (.inr (0, 1, 1)))), (3, .inr (.inl (.inr (0, 1, 2))))], [], [], [(0, 5), (0, 400), (0, 400)], []), (.inl 1, .inl 0, .inl 0))
def rk0T : List aL := [((8, [(0, .inl [170]), (1, .inr (.inl (.inr (0, 1, 0)))), (2, .inr (.inl (.inr (0, 1, 1)))), (3, .inr (.inl (.inr (0, 1, 2)))), (4, .inr (.inl (.inr (0, 1, 1))))], [], [(170, 24, .inr (.inl (.inl 0)))], [(0, 5), (0, 400), (0, 400)], []), (.inl 0, .inl 0, .inl 0))]
def rk0U : List aU := []
set_option maxRecDepth 1000000 in
theorem rk0_k : chkL P39 rkW (mkQ P39 rkW [] 3000 0) eM229 3 rk0T rk0U 3000 rk0A = true := by decide +kernel
def rkEA : aL := ((135, [(0, .inl [170])], [], [(170, 24, .inr (.inl (.inl 1)))], [], []), (.inl 1, .inl 0, .inl 0))
def rkET : List aL := []
def rkEU : List aU := [(some (.inr (.inr (.inl (.inr (0, 1, 0))))), [], [((-9223372036854775808), 9223372036854775807)], [])]
set_option maxRecDepth 1000000 in
theorem rkE_k : chkL P39 rkW (mkQ P39 rkW [] 3000 1) eM229 0 rkET rkEU 3000 rkEA = true := by decide +kernel
def rkNA : aL := ((49, [(0, .inl [170]), (1, .inr (.inl (.inr (0, 1, 0)))), (2, .inr (.inl (.inr (0, 1, 1)))), (3, .inr (.inl (.inr (0, 1, 2)))), (4, .inr (.inl (.inr (0, 1, 3)))), (5, .inr (.inl (.inl 0))), (6, .inr (.inl (.inr (0, 1, 5))))], [], [(170, 24, .inr (.inl (.inr (0, 1, 4))))], [(0, 5), (0, 400), (0, 400), (0, 399), (0, 63), ((-2147483648), 2147483647)], []), (.inl 1, .inl 0, .inl 0))
def rkNT : List aL := [((8, [(0, .inl [170]), (1, .inr (.inl (.inr (0, 1, 0)))), (2, .inr (.inl (.inr (0, 1, 1)))), (3, .inr (.inl (.inr (0, 1, 2)))), (4, .inr (.inl (.inr (1, 1, 3))))], [], [(170, 24, .inr (.inl (.inr (1, 1, 4))))], [(0, 5), (0, 400), (0, 400), (0, 399), (0, 63), ((-2147483648), 2147483647)], []), (.inl 0, .inl 0, .inl 0))]
def rkNU : List aU := []
set_option maxRecDepth 1000000 in
theorem rkN_k : chkL P39 rkW (mkQ P39 rkW [] 3000 1) eM229 6 rkNT rkNU 3000 rkNA = true := by decide +kernel
def rkW1A : aL := ((49, [(0, .inl [170]), (1, .inr (.inl (.inr (0, 1, 0)))), (2, .inr (.inl (.inr (0, 1, 1)))), (3, .inr (.inl (.inr (0, 1, 2)))), (4, .inr (.inl (.inr (0, 1, 3)))), (5, .inr (.inl (.inl 1))), (6, .inr (.inl (.inr (0, 1, 5))))], [], [(170, 24, .inr (.inl (.inr (0, 1, 4))))], [(0, 5), (0, 400), (0, 400), (0, 399), (0, 63), (0, 8)], []), (.inl 1, .inl 0, .inl 0))
def rkW1T : List aL := [((8, [(0, .inl [170]), (1, .inr (.inl (.inr (0, 1, 0)))), (2, .inr (.inl (.inr (0, 1, 1)))), (3, .inr (.inl (.inr (0, 1, 2)))), (4, .inr (.inl (.inr (1, 1, 3))))], [], [(170, 24, .inr (.inl (.inr (1, 1, 4))))], [(0, 5), (0, 400), (0, 400), (0, 399), (0, 63), (0, 8)], []), (.inl 0, .inl 0, .inl 0))]
def rkW1U : List aU := []
set_option maxRecDepth 1000000 in
theorem rkW1_k : chkL P39 rkW (mkQ P39 rkW [] 3000 1) eM229 6 rkW1T rkW1U 3000 rkW1A = true := by decide +kernel
def rkTA : aL := ((49, [(0, .inl [170]), (1, .inr (.inl (.inr (0, 1, 0)))), (2, .inr (.inl (.inr (0, 1, 1)))), (3, .inr (.inl (.inr (0, 1, 2)))), (4, .inr (.inl (.inr (0, 1, 3)))), (5, .inr (.inl (.inl 11))), (6, .inr (.inl (.inr (0, 1, 5))))], [], [(170, 24, .inr (.inl (.inr (0, 1, 4))))], [(0, 5), (0, 400), (0, 400), (0, 399), (1, 64), ((-2147483648), 2147483647)], []), (.inl 1, .inl 0, .inl 0))
def rkTT : List aL := [((8, [(0, .inl [170]), (1, .inr (.inl (.inr (0, 1, 0)))), (2, .inr (.inl (.inr (0, 1, 1)))), (3, .inr (.inl (.inr (0, 1, 2)))), (4, .inr (.inl (.inr (1, 1, 3))))], [], [(170, 24, .inr (.inl (.inr (0, 1, 4))))], [(0, 5), (0, 400), (0, 400), (0, 399), (1, 64), ((-2147483648), 2147483647)], []), (.inl 0, .inl 0, .inl 0))]
def rkTU : List aU := []
set_option maxRecDepth 1000000 in
theorem rkT_k : chkL P39 rkW (mkQ P39 rkW [] 3000 1) eM229 6 rkTT rkTU 3000 rkTA = true := by decide +kernel
def rkBA : aL := ((49, [(0, .inl [170]), (1, .inr (.inl (.inr (0, 1, 0)))), (2, .inr (.inl (.inr (0, 1, 1)))), (3, .inr (.inl (.inr (0, 1, 2)))), (4, .inr (.inl (.inr (0, 1, 3)))), (5, .inr (.inl (.inr (0, 1, 6)))), (6, .inr (.inl (.inr (0, 1, 5))))], [], [(170, 24, .inr (.inl (.inr (0, 1, 4))))], [(0, 5), (0, 400), (0, 400), (0, 399), (2, 64), ((-2147483648), 2147483647), (2, 10)], []), (.inl 1, .inl 0, .inl 0))
def rkBT : List aL := [((8, [(0, .inl [170]), (1, .inr (.inl (.inr (0, 1, 0)))), (2, .inr (.inl (.inr (0, 1, 1)))), (3, .inr (.inl (.inr (0, 1, 2)))), (4, .inr (.inl (.inr (1, 1, 3))))], [], [(170, 24, .inr (.inl (.inr ((-1), 1, 4))))], [(0, 5), (0, 400), (0, 400), (0, 399), (2, 64), ((-2147483648), 2147483647), (2, 10)], []), (.inl 0, .inl 0, .inl 0))]
def rkBU : List aU := []
set_option maxRecDepth 1000000 in
theorem rkB_k : chkL P39 rkW (mkQ P39 rkW [] 3000 1) eM229 7 rkBT rkBU 3000 rkBA = true := by decide +kernel
def rkCA : aL := ((49, [(0, .inl [170]), (1, .inr (.inl (.inr (0, 1, 0)))), (2, .inr (.inl (.inr (0, 1, 1)))), (3, .inr (.inl (.inr (0, 1, 2)))), (4, .inr (.inl (.inr (0, 1, 3)))), (5, .inr (.inl (.inr (0, 1, 6)))), (6, .inr (.inl (.inr (0, 1, 5))))], [], [(170, 24, .inr (.inl (.inr (0, 1, 4))))], [(0, 5), (0, 400), (0, 400), (0, 399), (2, 64), ((-2147483648), 2147483647), (12, 15)], []), (.inl 1, .inl 0, .inl 0))
def rkCT : List aL := [((8, [(0, .inl [170]), (1, .inr (.inl (.inr (0, 1, 0)))), (2, .inr (.inl (.inr (0, 1, 1)))), (3, .inr (.inl (.inr (0, 1, 2)))), (4, .inr (.inl (.inr (1, 1, 3))))], [], [(170, 24, .inr (.inl (.inr ((-1), 1, 4))))], [(0, 5), (0, 400), (0, 400), (0, 399), (2, 64), ((-2147483648), 2147483647), (12, 15)], []), (.inl 0, .inl 0, .inl 0))]
def rkCU : List aU := []
set_option maxRecDepth 1000000 in
theorem rkC_k : chkL P39 rkW (mkQ P39 rkW [] 3000 1) eM229 7 rkCT rkCU 3000 rkCA = true := by decide +kernel
