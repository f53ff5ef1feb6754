set_option maxRecDepth 1000000
/-- TwoMouths$TownReader.read -/
def zn24 : aN := (84, [.inl [3]], [], [], [], [(1, 2), (1, 3), (1, 4), (1, 5), (4, 4), (4, 5), (5, 1000), (6, 1000), (7, 1000), (8, 3), (9, 1000), (10, 1000), (11, 1000)], [(some (.inr (.inl (.inr (0, 1, 0)))), [], [((-2147483648), 2147483647)], [])])
def zl24 : List aL := [((16, [(0, .inl [3]), (1, .inr (.inl (.inr (0, 1, 0))))], [], [], [(0, 100)], []), (.inr (201, (-2), 0), .inl 0, .inl 0))]
theorem zk24 : chkM P9 (mkQ P9 zn24.2.2.2.2.2.1 [zn0, zn23] 3000 2) zn24 (.inl 202, .inl 0, .inl 0) zl24 3000 = true := by decide +kernel
theorem zt24 : Con P9 13 zn24 := con_of J9_ok (d := 10) (n := 2) (cs_cons (Con_le (by decide) (zt0)) (cs_cons (Con_le (by decide) (zt23)) (cs_nil))) zk24
/-- TwoMouths.town -/
def zn25 : aN := (147, [.inl [0]], [], [], [], [(1, 1), (1, 2), (1, 3), (1, 4), (1, 5), (4, 4), (4, 5), (5, 1000), (6, 1000), (7, 1000), (8, 3), (9, 1000), (10, 1000), (11, 1000), (13, 4), (13, 5), (14, 1000), (15, 1000), (16, 1000), (17, 3), (18, 1000), (19, 1000), (20, 1000)], [(some (.inr (.inl (.inr (0, 1, 0)))), [], [((-2147483648), 2147483647)], [])])
def zl25 : List aL := []
theorem zk25 : chkM P9 (mkQ P9 zn25.2.2.2.2.2.1 [zn24] 3000 2) zn25 (.inl 0, .inl 0, .inl 0) zl25 3000 = true := by decide +kernel
theorem zt25 : Con P9 16 zn25 := con_of J9_ok (d := 13) (n := 2) (cs_cons (Con_le (by decide) (zt24)) (cs_nil)) zk25
/-- TwoMouths.feed -/
def zn26 : aN := (108, [.inl [0], .inr (.inl (.inr (0, 1, 0))), .inr (.inl (.inr (0, 1, 1))), .inr (.inl (.inr (0, 1, 2))), .inr (.inl (.inr (0, 1, 3))), .inr (.inl (.inr (0, 1, 4)))], [], [((-2147483648), 2147483647), ((-2147483648), 2147483647), ((-2147483648), 2147483647), ((-2147483648), 2147483647), ((-2147483648), 2147483647)], [], [(1, 1), (2, 1000)], [(some (.inr (.inl (.inr (0, 1, 5)))), [], [((-2147483648), 2147483647), ((-2147483648), 2147483647), ((-2147483648), 2147483647), ((-2147483648), 2147483647), ((-2147483648), 2147483647), ((-1), 400)], [])])
def zl26 : List aL := []
theorem zk26 : chkM P9 (mkQ P9 zn26.2.2.2.2.2.1 [zn21] 3000 0) zn26 (.inl 0, .inl 0, .inl 0) zl26 3000 = true := by decide +kernel
theorem zt26 : Con P9 2 zn26 := con_of J9_ok (d := 1) (n := 0) (cs_cons (Con_le (by decide) (zt21)) (cs_nil)) zk26
/-- TwoMouths.end -/
def zn27 : aN := (106, [.inl [0], .inr (.inl (.inr (0, 1, 0)))], [], [((-2147483648), 2147483647)], [], [(1, 1)], [(some (.inr (.inl (.inr (0, 1, 1)))), [], [((-2147483648), 2147483647), ((-1), 400)], [])])
def zl27 : List aL := []
theorem zk27 : chkM P9 (mkQ P9 zn27.2.2.2.2.2.1 [] 3000 0) zn27 (.inl 0, .inl 0, .inl 0) zl27 3000 = true := by decide +kernel
theorem zt27 : Con P9 1 zn27 := con_of J9_ok (d := 0) (n := 0) (cs_nil) zk27
