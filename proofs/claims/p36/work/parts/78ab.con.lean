set_option maxRecDepth 1000000
/-- TwoMouths$Tape.readNumber -/
def zn20 : aN := (70, [.inl [1]], [(1, 2, .inr (.inl (.inr (0, 1, 0)))), (1, 1, .inr (.inl (.inr (0, 1, 1))))], [(0, 400), (0, 400)], [], [(1, 2), (1, 3), (1, 4), (1, 5)], [(some (.inr (.inl (.inl 1))), [], [(0, 400), (0, 400)], []), (some (.inr (.inl (.inl 0))), [], [(0, 400), (0, 400)], [])])
def zl20 : List aL := [((18, [(0, .inl [1])], [], [(1, 1, .inr (.inl (.inr (0, 1, 1)))), (1, 2, .inr (.inl (.inr (0, 1, 2))))], [(0, 400), (0, 400), (0, 400)], []), (.inr (801, (-2), 2), .inl 0, .inl 0))]
theorem zk20 : chkM P39 (mkQ P39 zn20.2.2.2.2.2.1 [zn0] 3000 1) zn20 (.inl 802, .inl 0, .inl 0) zl20 3000 = true := by decide +kernel
/-- TwoMouths$Tape.push -/
def zn21 : aN := (69, [.inl [1], .inr (.inl (.inr (0, 1, 0)))], [(1, 1, .inr (.inl (.inr (0, 1, 1))))], [((-2147483648), 2147483647), (0, 400)], [], [(1, 1), (2, 1000)], [(none, [], [((-2147483648), 2147483647), (0, 400)], [])])
def zl21 : List aL := []
theorem zk21 : chkM P39 (mkQ P39 zn21.2.2.2.2.2.1 [] 3000 0) zn21 (.inl 0, .inl 0, .inl 0) zl21 3000 = true := by decide +kernel
/-- TwoMouths$Town.addDeaf -/
def zn22 : aN := (78, [.inl [4], .inr (.inl (.inr (0, 1, 0))), .inr (.inl (.inr (0, 1, 1))), .inr (.inl (.inr (0, 1, 2)))], [], [(0, 9), (0, 99), (0, 99)], [], [(4, 4), (6, 1000)], [(none, [], [(0, 9), (0, 99), (0, 99)], [])])
def zl22 : List aL := [((3, [(0, .inl [4]), (1, .inr (.inl (.inr (0, 1, 0)))), (2, .inr (.inl (.inr (0, 1, 1)))), (3, .inr (.inl (.inr (0, 1, 2)))), (4, .inr (.inl (.inr (0, 1, 3))))], [], [], [(0, 9), (0, 99), (0, 99), (0, 100)], []), (.inr (201, (-2), 3), .inl 0, .inl 0))]
theorem zk22 : chkM P39 (mkQ P39 zn22.2.2.2.2.2.1 [] 3000 0) zn22 (.inl 202, .inl 0, .inl 0) zl22 3000 = true := by decide +kernel
