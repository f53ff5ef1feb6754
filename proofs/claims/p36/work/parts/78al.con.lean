set_option maxRecDepth 1000000
/-- TwoMouths$RowSet.next behind -/
def zn65 : aN := (31, [.inl [125, 129, 133, 137, 141, 145, 149, 153, 157, 161], .inr (.inl (.inr (0, 1, 0)))], [], [((-2147483648), 2147483647)], [], [], [(some (.inr (.inl (.inr (0, 1, 1)))), [], [((-2147483648), 2147483647), (0, 1024)], [])])
def zl65 : List aL := [((40, [(0, .inl [125, 129, 133, 137, 141, 145, 149, 153, 157, 161]), (1, .inr (.inl (.inr (0, 1, 0)))), (2, .inr (.inr (.inl (.inr (0, 1, 1))))), (4, .inr (.inl (.inr (0, 1, 2))))], [], [], [(0, 1023), ((-9223372036854775808), 9223372036854775807), (0, 16)], []), (.inr (33, (-2), 2), .inl 0, .inl 0))]
theorem zk65 : chkM P39 (mkQ P39 zn65.2.2.2.2.2.1 [] 3000 2) zn65 (.inl 34, .inl 0, .inl 0) zl65 3000 = true := by decide +kernel
/-- TwoMouths$RowSet.size -/
def zn66 : aN := (33, [.inl [123, 127, 131, 135, 139, 143, 147, 151, 155, 159]], [], [], [], [], [(some (.inr (.inl (.inr (0, 1, 0)))), [], [((-2147483648), 2147483647)], [])])
def zl66 : List aL := [((4, [(0, .inl [123, 127, 131, 135, 139, 143, 147, 151, 155, 159]), (1, .inr (.inl (.inr (0, 1, 0)))), (2, .inr (.inl (.inr (0, 1, 1))))], [], [], [((-2147483648), 2147483647), (0, 19)], []), (.inr (39, (-2), 1), .inl 0, .inl 0))]
theorem zk66 : chkM P39 (mkQ P39 zn66.2.2.2.2.2.1 [] 3000 1) zn66 (.inl 40, .inl 0, .inl 0) zl66 3000 = true := by decide +kernel
/-- TwoMouths$RowSet.shortest -/
def zn67 : aN := (32, [.inl [123, 127, 131, 135, 139, 143, 147, 151, 155, 159]], [], [], [], [], [(some (.inr (.inl (.inr (0, 1, 0)))), [], [(0, 9)], [])])
def zl67 : List aL := [((9, [(0, .inl [123, 127, 131, 135, 139, 143, 147, 151, 155, 159]), (1, .inr (.inl (.inr (0, 1, 1)))), (2, .inr (.inl (.inr (0, 1, 0))))], [], [], [(0, 1024), (0, 10)], []), (.inr (2049, (-2), 0), .inl 0, .inl 0))]
theorem zk67 : chkM P39 (mkQ P39 zn67.2.2.2.2.2.1 [zn64] 3000 1) zn67 (.inl 2050, .inl 0, .inl 0) zl67 3000 = true := by decide +kernel
/-- TwoMouths$RowSet.union -/
def zn68 : aN := (35, [.inl [123, 127, 131, 135, 139, 143, 147, 151, 155, 159]], [], [], [], [], [(some (.inr (.inl (.inr (0, 1, 0)))), [], [(0, 1023)], [])])
def zl68 : List aL := [((8, [(0, .inl [123, 127, 131, 135, 139, 143, 147, 151, 155, 159]), (1, .inr (.inl (.inr (0, 1, 1)))), (2, .inr (.inl (.inr (0, 1, 0))))], [], [], [(0, 1024), (0, 1023)], []), (.inr (2049, (-2), 0), .inl 0, .inl 0))]
theorem zk68 : chkM P39 (mkQ P39 zn68.2.2.2.2.2.1 [zn64] 3000 0) zn68 (.inl 2050, .inl 0, .inl 0) zl68 3000 = true := by decide +kernel
/-- TwoMouths$RowSet.common -/
def zn69 : aN := (28, [.inl [123, 127, 131, 135, 139, 143, 147, 151, 155, 159]], [], [], [], [], [(some (.inr (.inl (.inr (0, 1, 0)))), [], [(0, 1022)], [])])
def zl69 : List aL := [((10, [(0, .inl [123, 127, 131, 135, 139, 143, 147, 151, 155, 159]), (1, .inr (.inl (.inr (0, 1, 1)))), (2, .inr (.inl (.inr (0, 1, 0))))], [], [], [(0, 1024), (0, 1023)], []), (.inr (2049, (-2), 0), .inl 0, .inl 0))]
theorem zk69 : chkM P39 (mkQ P39 zn69.2.2.2.2.2.1 [zn64] 3000 0) zn69 (.inl 2050, .inl 0, .inl 0) zl69 3000 = true := by decide +kernel
/-- TwoMouths$RowSet.addPassed -/
def zn70 : aN := (26, [.inl [125, 129, 133, 137, 141, 145, 149, 153, 157, 161], .inl [123, 127, 131, 135, 139, 143, 147, 151, 155, 159], .inr (.inl (.inr (0, 1, 0))), .inr (.inl (.inr (0, 1, 1)))], [], [(0, 9), (0, 9)], [], [(126, 1000), (130, 1000), (134, 1000), (138, 1000), (142, 1000), (146, 1000), (150, 1000), (154, 1000), (158, 1000), (162, 1000)], [(none, [], [(0, 9), (0, 9)], [])])
def zl70 : List aL := [((7, [(0, .inl [125, 129, 133, 137, 141, 145, 149, 153, 157, 161]), (1, .inl [123, 127, 131, 135, 139, 143, 147, 151, 155, 159]), (2, .inr (.inl (.inr (0, 1, 0)))), (3, .inr (.inl (.inr (0, 1, 1)))), (4, .inr (.inl (.inr (0, 1, 2))))], [], [], [(0, 9), (0, 9), (0, 1024)], []), (.inr (2049, (-2), 2), .inl 0, .inl 0))]
theorem zk70 : chkM P39 (mkQ P39 zn70.2.2.2.2.2.1 [zn64] 3000 2) zn70 (.inl 2050, .inl 0, .inl 0) zl70 3000 = true := by decide +kernel
/-- TwoMouths$Parts.isAnyWithin -/
def zn71 : aN := (21, [.inl [111], .inr (.inl (.inr (0, 1, 0)))], [], [(0, 1023)], [], [], [(some (.inr (.inl (.inl 0))), [], [(0, 1023)], []), (some (.inr (.inl (.inl 1))), [], [(0, 1023)], [])])
def zl71 : List aL := [((2, [(0, .inl [111]), (1, .inr (.inl (.inr (0, 1, 0)))), (2, .inr (.inl (.inr (0, 1, 1))))], [], [], [(0, 1023), (0, 1024)], []), (.inr (2049, (-2), 1), .inl 0, .inl 0))]
theorem zk71 : chkM P39 (mkQ P39 zn71.2.2.2.2.2.1 [] 3000 0) zn71 (.inl 2050, .inl 0, .inl 0) zl71 3000 = true := by decide +kernel
/-- TwoMouths$Parts.look -/
def zn72 : aN := (22, [.inl [111], .inl [123, 127, 131, 135, 139, 143, 147, 151, 155, 159]], [(111, 1, .inr (.inl (.inr (0, 1, 0))))], [(0, 1024)], [], [(111, 1), (112, 1000)], [(none, [], [(0, 1024)], [])])
def zl72 : List aL := [((11, [(0, .inl [111]), (1, .inl [123, 127, 131, 135, 139, 143, 147, 151, 155, 159]), (2, .inr (.inl (.inr (0, 1, 1))))], [], [(111, 1, .inr (.inl (.inr (0, 1, 2))))], [(0, 1024), (0, 1024), (0, 1024)], []), (.inr (2049, (-2), 1), .inl 0, .inl 0))]
theorem zk72 : chkM P39 (mkQ P39 zn72.2.2.2.2.2.1 [zn64, zn71] 3000 0) zn72 (.inl 2050, .inl 0, .inl 0) zl72 3000 = true := by decide +kernel
/-- TwoMouths$Parts.choose 2 -/
def zn73 : aN := (19, [.inl [111], .inr (.inl (.inr (0, 1, 0))), .inr (.inl (.inr (0, 1, 1))), .inr (.inl (.inl 2)), .inr (.inl (.inr (0, 1, 2)))], [], [(0, 1024), (0, 1023), (1, 3)], [], [(113, 1000)], [(some (.inr (.inl (.inl 1))), [], [(0, 1024), (0, 1023), (1, 3)], []), (some (.inr (.inl (.inl 0))), [], [(0, 1024), (0, 1023), (3, 3)], [])])
def zl73 : List aL := [((16, [(0, .inl [111]), (1, .inr (.inl (.inr (0, 1, 0)))), (2, .inr (.inl (.inr (0, 1, 1)))), (3, .inr (.inl (.inl 2))), (4, .inr (.inl (.inr (0, 1, 2)))), (5, .inr (.inl (.inr (0, 1, 3))))], [], [], [(0, 1024), (0, 1023), (3, 3), (0, 1024)], []), (.inr (2049, (-2), 3), .inl 0, .inl 0))]
theorem zk73 : chkM P39 (mkQ P39 zn73.2.2.2.2.2.1 [] 3000 1) zn73 (.inl 2050, .inl 0, .inl 0) zl73 3000 = true := by decide +kernel
/-- TwoMouths$Parts.choose 1 -/
def zn74 : aN := (19, [.inl [111], .inr (.inl (.inr (0, 1, 0))), .inr (.inl (.inr (0, 1, 1))), .inr (.inl (.inl 1)), .inr (.inl (.inr (0, 1, 2)))], [], [(0, 1024), (0, 1023), (1, 3)], [], [(113, 1000)], [(some (.inr (.inl (.inl 1))), [], [(0, 1024), (0, 1023), (1, 3)], []), (some (.inr (.inl (.inl 0))), [], [(0, 1024), (0, 1023), (2, 3)], [])])
def zl74 : List aL := [((16, [(0, .inl [111]), (1, .inr (.inl (.inr (0, 1, 0)))), (2, .inr (.inl (.inr (0, 1, 1)))), (3, .inr (.inl (.inl 1))), (4, .inr (.inl (.inr (0, 1, 2)))), (5, .inr (.inl (.inr (0, 1, 3))))], [], [], [(0, 1024), (0, 1023), (2, 3), (0, 1024)], []), (.inr (2049, (-2), 3), .inl 0, .inl 0))]
theorem zk74 : chkM P39 (mkQ P39 zn74.2.2.2.2.2.1 [zn73] 3000 0) zn74 (.inl 2050, .inl 0, .inl 0) zl74 3000 = true := by decide +kernel
/-- TwoMouths$Parts.choose 0 -/
def zn75 : aN := (19, [.inl [111], .inr (.inl (.inr (0, 1, 0))), .inr (.inl (.inr (0, 1, 1))), .inr (.inl (.inl 0)), .inr (.inl (.inr (0, 1, 2)))], [], [(0, 1024), (0, 1023), (1, 3)], [], [(113, 1000)], [(some (.inr (.inl (.inl 0))), [], [(0, 1024), (0, 1023), (1, 3)], []), (some (.inr (.inl (.inl 1))), [], [(0, 1024), (0, 1023), (1, 3)], [])])
def zl75 : List aL := [((16, [(0, .inl [111]), (1, .inr (.inl (.inr (0, 1, 0)))), (2, .inr (.inl (.inr (0, 1, 1)))), (3, .inr (.inl (.inl 0))), (4, .inr (.inl (.inr (0, 1, 2)))), (5, .inr (.inl (.inr (0, 1, 3))))], [], [], [(0, 1024), (0, 1023), (1, 3), (0, 1024)], []), (.inr (2049, (-2), 3), .inl 0, .inl 0))]
theorem zk75 : chkM P39 (mkQ P39 zn75.2.2.2.2.2.1 [zn74] 3000 0) zn75 (.inl 2050, .inl 0, .inl 0) zl75 3000 = true := by decide +kernel
/-- TwoMouths$Parts.mostFrom 10 -/
def zn76 : aN := (23, [.inl [111], .inr (.inl (.inr (0, 1, 0))), .inr (.inl (.inr (0, 1, 1))), .inr (.inl (.inl 10))], [], [(0, 1024), (0, 1023)], [], [], [(some (.inr (.inl (.inl 0))), [], [(0, 1024), (0, 1023)], [])])
def zl76 : List aL := [((6, [(0, .inl [111]), (1, .inr (.inl (.inr (0, 1, 0)))), (2, .inr (.inl (.inr (0, 1, 1)))), (3, .inr (.inl (.inl 10))), (4, .inr (.inl (.inl 0))), (5, .inr (.inl (.inr (0, 1, 0))))], [], [], [(0, 1024), (0, 1023)], []), (.inl 0, .inl 0, .inl 0))]
theorem zk76 : chkM P39 (mkQ P39 zn76.2.2.2.2.2.1 [] 3000 0) zn76 (.inl 1, .inl 0, .inl 0) zl76 3000 = true := by decide +kernel
/-- TwoMouths$Parts.mostFrom 9 -/
def zn77 : aN := (23, [.inl [111], .inr (.inl (.inr (0, 1, 0))), .inr (.inl (.inr (0, 1, 1))), .inr (.inl (.inl 9))], [], [(0, 1024), (0, 1023)], [], [], [(some (.inr (.inl (.inr (0, 1, 2)))), [], [(0, 1024), (0, 1023), (0, 1)], [])])
def zl77 : List aL := [((6, [(0, .inl [111]), (1, .inr (.inl (.inr (0, 1, 0)))), (2, .inr (.inl (.inr (0, 1, 1)))), (3, .inr (.inl (.inl 9))), (4, .inr (.inl (.inr (0, 1, 3)))), (5, .inr (.inl (.inr (0, 1, 2))))], [], [], [(0, 1024), (0, 1023), (0, 1024), (0, 1)], []), (.inr (2049, (-2), 2), .inl 0, .inl 0))]
theorem zk77 : chkM P39 (mkQ P39 zn77.2.2.2.2.2.1 [zn76] 3000 0) zn77 (.inl 2050, .inl 0, .inl 0) zl77 3000 = true := by decide +kernel
/-- TwoMouths$Parts.mostFrom 8 -/
def zn78 : aN := (23, [.inl [111], .inr (.inl (.inr (0, 1, 0))), .inr (.inl (.inr (0, 1, 1))), .inr (.inl (.inl 8))], [], [(0, 1024), (0, 1023)], [], [], [(some (.inr (.inl (.inr (0, 1, 2)))), [], [(0, 1024), (0, 1023), (0, 2)], [])])
def zl78 : List aL := [((6, [(0, .inl [111]), (1, .inr (.inl (.inr (0, 1, 0)))), (2, .inr (.inl (.inr (0, 1, 1)))), (3, .inr (.inl (.inl 8))), (4, .inr (.inl (.inr (0, 1, 3)))), (5, .inr (.inl (.inr (0, 1, 2))))], [], [], [(0, 1024), (0, 1023), (0, 1024), (0, 2)], []), (.inr (2049, (-2), 2), .inl 0, .inl 0))]
theorem zk78 : chkM P39 (mkQ P39 zn78.2.2.2.2.2.1 [zn77] 3000 0) zn78 (.inl 2050, .inl 0, .inl 0) zl78 3000 = true := by decide +kernel
/-- TwoMouths$Parts.mostFrom 7 -/
def zn79 : aN := (23, [.inl [111], .inr (.inl (.inr (0, 1, 0))), .inr (.inl (.inr (0, 1, 1))), .inr (.inl (.inl 7))], [], [(0, 1024), (0, 1023)], [], [], [(some (.inr (.inl (.inr (0, 1, 2)))), [], [(0, 1024), (0, 1023), (0, 3)], [])])
def zl79 : List aL := [((6, [(0, .inl [111]), (1, .inr (.inl (.inr (0, 1, 0)))), (2, .inr (.inl (.inr (0, 1, 1)))), (3, .inr (.inl (.inl 7))), (4, .inr (.inl (.inr (0, 1, 3)))), (5, .inr (.inl (.inr (0, 1, 2))))], [], [], [(0, 1024), (0, 1023), (0, 1024), (0, 3)], []), (.inr (2049, (-2), 2), .inl 0, .inl 0))]
theorem zk79 : chkM P39 (mkQ P39 zn79.2.2.2.2.2.1 [zn78] 3000 0) zn79 (.inl 2050, .inl 0, .inl 0) zl79 3000 = true := by decide +kernel
/-- TwoMouths$Parts.mostFrom 6 -/
def zn80 : aN := (23, [.inl [111], .inr (.inl (.inr (0, 1, 0))), .inr (.inl (.inr (0, 1, 1))), .inr (.inl (.inl 6))], [], [(0, 1024), (0, 1023)], [], [], [(some (.inr (.inl (.inr (0, 1, 2)))), [], [(0, 1024), (0, 1023), (0, 4)], [])])
def zl80 : List aL := [((6, [(0, .inl [111]), (1, .inr (.inl (.inr (0, 1, 0)))), (2, .inr (.inl (.inr (0, 1, 1)))), (3, .inr (.inl (.inl 6))), (4, .inr (.inl (.inr (0, 1, 3)))), (5, .inr (.inl (.inr (0, 1, 2))))], [], [], [(0, 1024), (0, 1023), (0, 1024), (0, 4)], []), (.inr (2049, (-2), 2), .inl 0, .inl 0))]
theorem zk80 : chkM P39 (mkQ P39 zn80.2.2.2.2.2.1 [zn79] 3000 0) zn80 (.inl 2050, .inl 0, .inl 0) zl80 3000 = true := by decide +kernel
/-- TwoMouths$Parts.mostFrom 5 -/
def zn81 : aN := (23, [.inl [111], .inr (.inl (.inr (0, 1, 0))), .inr (.inl (.inr (0, 1, 1))), .inr (.inl (.inl 5))], [], [(0, 1024), (0, 1023)], [], [], [(some (.inr (.inl (.inr (0, 1, 2)))), [], [(0, 1024), (0, 1023), (0, 5)], [])])
def zl81 : List aL := [((6, [(0, .inl [111]), (1, .inr (.inl (.inr (0, 1, 0)))), (2, .inr (.inl (.inr (0, 1, 1)))), (3, .inr (.inl (.inl 5))), (4, .inr (.inl (.inr (0, 1, 3)))), (5, .inr (.inl (.inr (0, 1, 2))))], [], [], [(0, 1024), (0, 1023), (0, 1024), (0, 5)], []), (.inr (2049, (-2), 2), .inl 0, .inl 0))]
theorem zk81 : chkM P39 (mkQ P39 zn81.2.2.2.2.2.1 [zn80] 3000 0) zn81 (.inl 2050, .inl 0, .inl 0) zl81 3000 = true := by decide +kernel
/-- TwoMouths$Parts.mostFrom 4 -/
def zn82 : aN := (23, [.inl [111], .inr (.inl (.inr (0, 1, 0))), .inr (.inl (.inr (0, 1, 1))), .inr (.inl (.inl 4))], [], [(0, 1024), (0, 1023)], [], [], [(some (.inr (.inl (.inr (0, 1, 2)))), [], [(0, 1024), (0, 1023), (0, 6)], [])])
def zl82 : List aL := [((6, [(0, .inl [111]), (1, .inr (.inl (.inr (0, 1, 0)))), (2, .inr (.inl (.inr (0, 1, 1)))), (3, .inr (.inl (.inl 4))), (4, .inr (.inl (.inr (0, 1, 3)))), (5, .inr (.inl (.inr (0, 1, 2))))], [], [], [(0, 1024), (0, 1023), (0, 1024), (0, 6)], []), (.inr (2049, (-2), 2), .inl 0, .inl 0))]
theorem zk82 : chkM P39 (mkQ P39 zn82.2.2.2.2.2.1 [zn81] 3000 0) zn82 (.inl 2050, .inl 0, .inl 0) zl82 3000 = true := by decide +kernel
/-- TwoMouths$Parts.mostFrom 3 -/
def zn83 : aN := (23, [.inl [111], .inr (.inl (.inr (0, 1, 0))), .inr (.inl (.inr (0, 1, 1))), .inr (.inl (.inl 3))], [], [(0, 1024), (0, 1023)], [], [], [(some (.inr (.inl (.inr (0, 1, 2)))), [], [(0, 1024), (0, 1023), (0, 7)], [])])
def zl83 : List aL := [((6, [(0, .inl [111]), (1, .inr (.inl (.inr (0, 1, 0)))), (2, .inr (.inl (.inr (0, 1, 1)))), (3, .inr (.inl (.inl 3))), (4, .inr (.inl (.inr (0, 1, 3)))), (5, .inr (.inl (.inr (0, 1, 2))))], [], [], [(0, 1024), (0, 1023), (0, 1024), (0, 7)], []), (.inr (2049, (-2), 2), .inl 0, .inl 0))]
theorem zk83 : chkM P39 (mkQ P39 zn83.2.2.2.2.2.1 [zn82] 3000 0) zn83 (.inl 2050, .inl 0, .inl 0) zl83 3000 = true := by decide +kernel
/-- TwoMouths$Parts.mostFrom 2 -/
def zn84 : aN := (23, [.inl [111], .inr (.inl (.inr (0, 1, 0))), .inr (.inl (.inr (0, 1, 1))), .inr (.inl (.inl 2))], [], [(0, 1024), (0, 1023)], [], [], [(some (.inr (.inl (.inr (0, 1, 2)))), [], [(0, 1024), (0, 1023), (0, 8)], [])])
def zl84 : List aL := [((6, [(0, .inl [111]), (1, .inr (.inl (.inr (0, 1, 0)))), (2, .inr (.inl (.inr (0, 1, 1)))), (3, .inr (.inl (.inl 2))), (4, .inr (.inl (.inr (0, 1, 3)))), (5, .inr (.inl (.inr (0, 1, 2))))], [], [], [(0, 1024), (0, 1023), (0, 1024), (0, 8)], []), (.inr (2049, (-2), 2), .inl 0, .inl 0))]
theorem zk84 : chkM P39 (mkQ P39 zn84.2.2.2.2.2.1 [zn83] 3000 0) zn84 (.inl 2050, .inl 0, .inl 0) zl84 3000 = true := by decide +kernel
/-- TwoMouths$Parts.mostFrom 1 -/
def zn85 : aN := (23, [.inl [111], .inr (.inl (.inr (0, 1, 0))), .inr (.inl (.inr (0, 1, 1))), .inr (.inl (.inl 1))], [], [(0, 1024), (0, 1023)], [], [], [(some (.inr (.inl (.inr (0, 1, 2)))), [], [(0, 1024), (0, 1023), (0, 9)], [])])
def zl85 : List aL := [((6, [(0, .inl [111]), (1, .inr (.inl (.inr (0, 1, 0)))), (2, .inr (.inl (.inr (0, 1, 1)))), (3, .inr (.inl (.inl 1))), (4, .inr (.inl (.inr (0, 1, 3)))), (5, .inr (.inl (.inr (0, 1, 2))))], [], [], [(0, 1024), (0, 1023), (0, 1024), (0, 9)], []), (.inr (2049, (-2), 2), .inl 0, .inl 0))]
theorem zk85 : chkM P39 (mkQ P39 zn85.2.2.2.2.2.1 [zn84] 3000 0) zn85 (.inl 2050, .inl 0, .inl 0) zl85 3000 = true := by decide +kernel
/-- TwoMouths$Parts.mostFrom 0 -/
def zn86 : aN := (23, [.inl [111], .inr (.inl (.inr (0, 1, 0))), .inr (.inl (.inr (0, 1, 1))), .inr (.inl (.inl 0))], [], [(0, 1024), (0, 1023)], [], [], [(some (.inr (.inl (.inr (0, 1, 2)))), [], [(0, 1024), (0, 1023), (0, 10)], [])])
def zl86 : List aL := [((6, [(0, .inl [111]), (1, .inr (.inl (.inr (0, 1, 0)))), (2, .inr (.inl (.inr (0, 1, 1)))), (3, .inr (.inl (.inl 0))), (4, .inr (.inl (.inr (0, 1, 3)))), (5, .inr (.inl (.inr (0, 1, 2))))], [], [], [(0, 1024), (0, 1023), (0, 1024), (0, 10)], []), (.inr (2049, (-2), 2), .inl 0, .inl 0))]
theorem zk86 : chkM P39 (mkQ P39 zn86.2.2.2.2.2.1 [zn85] 3000 0) zn86 (.inl 2050, .inl 0, .inl 0) zl86 3000 = true := by decide +kernel
/-- TwoMouths$Law.judge (by hand) -/
def zn87 : aN := (6, [.inl [80, 85, 90, 95, 100, 105], .inr (.inl (.inr (0, 1, 0))), .inr (.inl (.inr (0, 1, 1))), .inl [122]], [], [(0, 400), (0, 400)], [], [(84, 1000), (89, 1000), (94, 1000), (99, 1000), (104, 1000), (109, 1000)], [(some (.inr (.inl (.inr (0, 1, 2)))), [], [(0, 400), (0, 400), (0, 1)], [])])
/-- TwoMouths$Law.lets -/
def zn88 : aN := (7, [.inl [80, 85, 90, 95, 100, 105], .inl [122]], [], [], [], [(84, 1000), (89, 1000), (94, 1000), (99, 1000), (104, 1000), (109, 1000)], [(some (.inr (.inl (.inr (0, 1, 0)))), [], [(0, 1)], []), (some (.inr (.inl (.inl 0))), [], [], [])])
def zl88 : List aL := [((10, [(0, .inl [80, 85, 90, 95, 100, 105]), (1, .inl [122]), (2, .inr (.inl (.inr (0, 1, 0)))), (3, .inr (.inl (.inr (0, 1, 3)))), (4, .inr (.inl (.inr (0, 1, 1)))), (5, .inr (.inl (.inr (0, 1, 2))))], [], [], [(0, 1), (0, 400), (0, 12), (0, 1)], []), (.inr (25, (-2), 2), .inl 0, .inl 0))]
theorem zk88 : chkM P39 (mkQ P39 zn88.2.2.2.2.2.1 [zn87] 3000 0) zn88 (.inl 26, .inl 0, .inl 0) zl88 3000 = true := by decide +kernel
/-- TwoMouths$Spread.clear -/
def zn89 : aN := (40, [.inl [114]], [], [], [], [(114, 15), (114, 16), (114, 19), (117, 1000), (118, 1000), (119, 1000), (120, 1000), (124, 1000), (126, 1000), (128, 1000), (130, 1000), (132, 1000), (134, 1000), (136, 1000), (138, 1000), (140, 1000), (142, 1000), (144, 1000), (146, 1000), (148, 1000), (150, 1000), (152, 1000), (154, 1000), (156, 1000), (158, 1000), (160, 1000), (162, 1000)], [(none, [], [], [])])
def zl89 : List aL := [((34, [(0, .inl [114]), (1, .inr (.inl (.inr (0, 1, 0))))], [], [(114, 15, .inr (.inl (.inl 0))), (114, 16, .inr (.inl (.inl 0))), (114, 19, .inr (.inl (.inl (-2))))], [(0, 10)], []), (.inr (21, (-2), 0), .inl 0, .inl 0))]
theorem zk89 : chkM P39 (mkQ P39 zn89.2.2.2.2.2.1 [] 3000 2) zn89 (.inl 22, .inl 0, .inl 0) zl89 3000 = true := by decide +kernel
/-- TwoMouths$Spread.close -/
def zn90 : aN := (41, [.inl [114], .inr (.inl (.inr (0, 1, 0)))], [], [(0, 99)], [], [(111, 1), (112, 1000), (113, 1000), (114, 16), (114, 19), (117, 1000), (118, 1000), (119, 1000), (124, 1000), (128, 1000), (132, 1000), (136, 1000), (140, 1000), (144, 1000), (148, 1000), (152, 1000), (156, 1000), (160, 1000)], [(none, [], [(0, 99)], [])])
def zl90 : List aL := [((2, [(0, .inl [114]), (1, .inr (.inl (.inr (0, 1, 0)))), (2, .inr (.inl (.inr (0, 1, 1))))], [], [], [(0, 99), (0, 10)], []), (.inr (21, (-2), 1), .inl 0, .inl 0))]
theorem zk90 : chkM P39 (mkQ P39 zn90.2.2.2.2.2.1 [zn64, zn72, zn75] 3000 2) zn90 (.inl 22, .inl 0, .inl 0) zl90 3000 = true := by decide +kernel
/-- TwoMouths$Spread.believing -/
def zn91 : aN := (39, [.inl [114]], [], [], [], [], [(some (.inr (.inl (.inr (0, 1, 0)))), [], [(0, 1023)], [])])
def zl91 : List aL := [((4, [(0, .inl [114]), (1, .inr (.inl (.inr (0, 1, 1)))), (2, .inr (.inl (.inr (0, 1, 0))))], [], [], [(0, 10), (0, 1023)], []), (.inr (21, (-2), 0), .inl 0, .inl 0))]
theorem zk91 : chkM P39 (mkQ P39 zn91.2.2.2.2.2.1 [] 3000 0) zn91 (.inl 22, .inl 0, .inl 0) zl91 3000 = true := by decide +kernel
/-- TwoMouths$Spread.reached -/
def zn92 : aN := (45, [.inl [114]], [], [], [], [], [(some (.inr (.inl (.inr (0, 1, 0)))), [], [((-2147483648), 2147483647)], [])])
def zl92 : List aL := [((4, [(0, .inl [114]), (1, .inr (.inl (.inr (0, 1, 1)))), (2, .inr (.inl (.inr (0, 1, 0))))], [], [], [(0, 10), ((-2147483648), 2147483647)], []), (.inr (21, (-2), 0), .inl 0, .inl 0))]
theorem zk92 : chkM P39 (mkQ P39 zn92.2.2.2.2.2.1 [] 3000 0) zn92 (.inl 22, .inl 0, .inl 0) zl92 3000 = true := by decide +kernel
/-- TwoMouths$Spread.isTold A -/
def zn93 : aN := (43, [.inl [114], .inr (.inl (.inr (0, 1, 0)))], [(114, 1, .inl [17])], [(0, 29)], [], [(84, 1000), (89, 1000), (94, 1000), (99, 1000), (104, 1000), (109, 1000), (122, 1000)], [(some (.inr (.inl (.inl 0))), [], [(0, 29)], []), (some (.inr (.inl (.inr (0, 1, 1)))), [], [(0, 29), (0, 1)], [])])
def zl93 : List aL := []
theorem zk93 : chkM P39 (mkQ P39 zn93.2.2.2.2.2.1 [zn66, zn67, zn88] 3000 2) zn93 (.inl 0, .inl 0, .inl 0) zl93 3000 = true := by decide +kernel
