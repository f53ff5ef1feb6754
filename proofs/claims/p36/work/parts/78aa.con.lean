set_option maxRecDepth 1000000
/-- TwoMouths$Tape.peek -/
def zn0 : aN := (68, [.inl [1]], [(1, 2, .inr (.inl (.inr (0, 1, 0)))), (1, 1, .inr (.inl (.inr (0, 1, 1))))], [(0, 400), (0, 400)], [], [(1, 2)], [(some (.inr (.inl (.inl (-1)))), [(1, 2, .inr (.inl (.inr (0, 1, 2)))), (1, 1, .inr (.inl (.inr (0, 1, 1))))], [(0, 400), (0, 400), (0, 400)], []), (some (.inr (.inl (.inr (0, 1, 2)))), [(1, 2, .inr (.inl (.inr (0, 1, 3)))), (1, 1, .inr (.inl (.inr (0, 1, 1))))], [(0, 399), (1, 400), (0, 255), (0, 399)], [])])
def zl0 : List aL := [((0, [(0, .inl [1])], [], [(1, 1, .inr (.inl (.inr (0, 1, 1)))), (1, 2, .inr (.inl (.inr (0, 1, 2))))], [(0, 399), (1, 400), (1, 400)], []), (.inr (801, (-2), 2), .inl 0, .inl 0))]
theorem zk0 : chkM P39 (mkQ P39 zn0.2.2.2.2.2.1 [] 3000 0) zn0 (.inl 800, .inl 0, .inl 0) zl0 3000 = true := by decide +kernel
/-- TwoMouths$Tape.readWord -/
def zn1 : aN := (73, [.inl [1]], [(1, 2, .inr (.inl (.inr (0, 1, 0)))), (1, 1, .inr (.inl (.inr (0, 1, 1))))], [(0, 400), (0, 400)], [], [(1, 2), (1, 3)], [(some (.inr (.inl (.inl 0))), [], [(0, 400), (0, 400)], []), (some (.inr (.inl (.inl 1))), [], [(0, 400), (0, 400)], [])])
def zl1 : List aL := [((13, [(0, .inl [1])], [], [(1, 1, .inr (.inl (.inr (0, 1, 1)))), (1, 2, .inr (.inl (.inr (0, 1, 2))))], [(0, 400), (0, 400), (0, 400)], []), (.inr (801, (-2), 2), .inl 0, .inl 0))]
theorem zk1 : chkM P39 (mkQ P39 zn1.2.2.2.2.2.1 [zn0] 3000 1) zn1 (.inl 802, .inl 0, .inl 0) zl1 3000 = true := by decide +kernel
/-- TwoMouths$Tape.spells 0 -/
def zn2 : aN := (74, [.inl [1], .inr (.inr (.inr 1))], [], [], [], [], [(some (.inr (.inl (.inl 1))), [], [], []), (some (.inr (.inl (.inl 0))), [], [], [])])
def zl2 : List aL := []
theorem zk2 : chkM P39 (mkQ P39 zn2.2.2.2.2.2.1 [] 3000 4) zn2 (.inl 0, .inl 0, .inl 0) zl2 3000 = true := by decide +kernel
/-- TwoMouths$Tape.spells 1 -/
def zn3 : aN := (74, [.inl [1], .inr (.inr (.inr 3))], [], [], [], [], [(some (.inr (.inl (.inl 1))), [], [], []), (some (.inr (.inl (.inl 0))), [], [], [])])
def zl3 : List aL := []
theorem zk3 : chkM P39 (mkQ P39 zn3.2.2.2.2.2.1 [] 3000 4) zn3 (.inl 0, .inl 0, .inl 0) zl3 3000 = true := by decide +kernel
/-- TwoMouths$Tape.spells 2 -/
def zn4 : aN := (74, [.inl [1], .inr (.inr (.inr 5))], [], [], [], [], [(some (.inr (.inl (.inl 1))), [], [], []), (some (.inr (.inl (.inl 0))), [], [], [])])
def zl4 : List aL := []
theorem zk4 : chkM P39 (mkQ P39 zn4.2.2.2.2.2.1 [] 3000 4) zn4 (.inl 0, .inl 0, .inl 0) zl4 3000 = true := by decide +kernel
/-- TwoMouths$Tape.spells 3 -/
def zn5 : aN := (74, [.inl [1], .inr (.inr (.inr 7))], [], [], [], [], [(some (.inr (.inl (.inl 1))), [], [], []), (some (.inr (.inl (.inl 0))), [], [], [])])
def zl5 : List aL := []
theorem zk5 : chkM P39 (mkQ P39 zn5.2.2.2.2.2.1 [] 3000 4) zn5 (.inl 0, .inl 0, .inl 0) zl5 3000 = true := by decide +kernel
/-- TwoMouths$Tape.spells 4 -/
def zn6 : aN := (74, [.inl [1], .inr (.inr (.inr 9))], [], [], [], [], [(some (.inr (.inl (.inl 1))), [], [], []), (some (.inr (.inl (.inl 0))), [], [], [])])
def zl6 : List aL := []
theorem zk6 : chkM P39 (mkQ P39 zn6.2.2.2.2.2.1 [] 3000 4) zn6 (.inl 0, .inl 0, .inl 0) zl6 3000 = true := by decide +kernel
/-- TwoMouths$Tape.spells 5 -/
def zn7 : aN := (74, [.inl [1], .inr (.inr (.inr 11))], [], [], [], [], [(some (.inr (.inl (.inl 1))), [], [], []), (some (.inr (.inl (.inl 0))), [], [], [])])
def zl7 : List aL := []
theorem zk7 : chkM P39 (mkQ P39 zn7.2.2.2.2.2.1 [] 3000 4) zn7 (.inl 0, .inl 0, .inl 0) zl7 3000 = true := by decide +kernel
/-- TwoMouths$Tape.spells 6 -/
def zn8 : aN := (74, [.inl [1], .inr (.inr (.inr 13))], [], [], [], [], [(some (.inr (.inl (.inl 1))), [], [], []), (some (.inr (.inl (.inl 0))), [], [], [])])
def zl8 : List aL := []
theorem zk8 : chkM P39 (mkQ P39 zn8.2.2.2.2.2.1 [] 3000 4) zn8 (.inl 0, .inl 0, .inl 0) zl8 3000 = true := by decide +kernel
/-- TwoMouths$Tape.spells 7 -/
def zn9 : aN := (74, [.inl [1], .inr (.inr (.inr 15))], [], [], [], [], [(some (.inr (.inl (.inl 1))), [], [], []), (some (.inr (.inl (.inl 0))), [], [], [])])
def zl9 : List aL := []
theorem zk9 : chkM P39 (mkQ P39 zn9.2.2.2.2.2.1 [] 3000 4) zn9 (.inl 0, .inl 0, .inl 0) zl9 3000 = true := by decide +kernel
/-- TwoMouths$Tape.spells 8 -/
def zn10 : aN := (74, [.inl [1], .inr (.inr (.inr 17))], [], [], [], [], [(some (.inr (.inl (.inl 1))), [], [], []), (some (.inr (.inl (.inl 0))), [], [], [])])
def zl10 : List aL := []
theorem zk10 : chkM P39 (mkQ P39 zn10.2.2.2.2.2.1 [] 3000 4) zn10 (.inl 0, .inl 0, .inl 0) zl10 3000 = true := by decide +kernel
/-- TwoMouths$Tape.spells 9 -/
def zn11 : aN := (74, [.inl [1], .inr (.inr (.inr 19))], [], [], [], [], [(some (.inr (.inl (.inl 1))), [], [], []), (some (.inr (.inl (.inl 0))), [], [], [])])
def zl11 : List aL := []
theorem zk11 : chkM P39 (mkQ P39 zn11.2.2.2.2.2.1 [] 3000 4) zn11 (.inl 0, .inl 0, .inl 0) zl11 3000 = true := by decide +kernel
/-- TwoMouths$Tape.spells 10 -/
def zn12 : aN := (74, [.inl [1], .inr (.inr (.inr 21))], [], [], [], [], [(some (.inr (.inl (.inl 1))), [], [], []), (some (.inr (.inl (.inl 0))), [], [], [])])
def zl12 : List aL := []
theorem zk12 : chkM P39 (mkQ P39 zn12.2.2.2.2.2.1 [] 3000 4) zn12 (.inl 0, .inl 0, .inl 0) zl12 3000 = true := by decide +kernel
/-- TwoMouths$Tape.spells 11 -/
def zn13 : aN := (74, [.inl [1], .inr (.inr (.inr 23))], [], [], [], [], [(some (.inr (.inl (.inl 1))), [], [], []), (some (.inr (.inl (.inl 0))), [], [], [])])
def zl13 : List aL := []
theorem zk13 : chkM P39 (mkQ P39 zn13.2.2.2.2.2.1 [] 3000 4) zn13 (.inl 0, .inl 0, .inl 0) zl13 3000 = true := by decide +kernel
/-- TwoMouths$Tape.spells 12 -/
def zn14 : aN := (74, [.inl [1], .inr (.inr (.inr 25))], [], [], [], [], [(some (.inr (.inl (.inl 1))), [], [], []), (some (.inr (.inl (.inl 0))), [], [], [])])
def zl14 : List aL := []
theorem zk14 : chkM P39 (mkQ P39 zn14.2.2.2.2.2.1 [] 3000 4) zn14 (.inl 0, .inl 0, .inl 0) zl14 3000 = true := by decide +kernel
/-- TwoMouths$Tape.spells 13 -/
def zn15 : aN := (74, [.inl [1], .inr (.inr (.inr 27))], [], [], [], [], [(some (.inr (.inl (.inl 1))), [], [], []), (some (.inr (.inl (.inl 0))), [], [], [])])
def zl15 : List aL := []
theorem zk15 : chkM P39 (mkQ P39 zn15.2.2.2.2.2.1 [] 3000 4) zn15 (.inl 0, .inl 0, .inl 0) zl15 3000 = true := by decide +kernel
/-- TwoMouths$Tape.spells 14 -/
def zn16 : aN := (74, [.inl [1], .inr (.inr (.inr 29))], [], [], [], [], [(some (.inr (.inl (.inl 1))), [], [], []), (some (.inr (.inl (.inl 0))), [], [], [])])
def zl16 : List aL := []
theorem zk16 : chkM P39 (mkQ P39 zn16.2.2.2.2.2.1 [] 3000 4) zn16 (.inl 0, .inl 0, .inl 0) zl16 3000 = true := by decide +kernel
/-- TwoMouths$Tape.spells 15 -/
def zn17 : aN := (74, [.inl [1], .inr (.inr (.inr 31))], [], [], [], [], [(some (.inr (.inl (.inl 1))), [], [], []), (some (.inr (.inl (.inl 0))), [], [], [])])
def zl17 : List aL := []
theorem zk17 : chkM P39 (mkQ P39 zn17.2.2.2.2.2.1 [] 3000 4) zn17 (.inl 0, .inl 0, .inl 0) zl17 3000 = true := by decide +kernel
/-- TwoMouths$Tape.spells 16 -/
def zn18 : aN := (74, [.inl [1], .inr (.inr (.inr 33))], [], [], [], [], [(some (.inr (.inl (.inl 1))), [], [], []), (some (.inr (.inl (.inl 0))), [], [], [])])
def zl18 : List aL := []
theorem zk18 : chkM P39 (mkQ P39 zn18.2.2.2.2.2.1 [] 3000 4) zn18 (.inl 0, .inl 0, .inl 0) zl18 3000 = true := by decide +kernel
/-- TwoMouths$Tape.spells 17 -/
def zn19 : aN := (74, [.inl [1], .inr (.inr (.inr 35))], [], [], [], [], [(some (.inr (.inl (.inl 1))), [], [], []), (some (.inr (.inl (.inl 0))), [], [], [])])
def zl19 : List aL := []
theorem zk19 : chkM P39 (mkQ P39 zn19.2.2.2.2.2.1 [] 3000 4) zn19 (.inl 0, .inl 0, .inl 0) zl19 3000 = true := by decide +kernel
