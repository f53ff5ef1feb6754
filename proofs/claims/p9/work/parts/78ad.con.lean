set_option maxRecDepth 1000000
/-- TwoMouths$TownReader.read -/
def zn24 : aN := (84, [.inl [3]], [], [], [], [(1, 2), (1, 3), (1, 4), (1, 5), (4, 4), (4, 5), (5, 1000), (6, 1000), (7, 1000), (8, 3), (9, 1000), (10, 1000), (11, 1000)], [(some (.inr (.inl (.inr (0, 1, 0)))), [], [((-2147483648), 2147483647)], [])])
def zl24 : List aL := [((16, [(0, .inl [3]), (1, .inr (.inl (.inr (0, 1, 0))))], [], [], [(0, 99)], []), (.inr (199, (-2), 0), .inl 0, .inl 0))]
theorem zk24 : chkM P9 (mkQ P9 zn24.2.2.2.2.2.1 [zn0, zn23] 3000 2) zn24 (.inl 200, .inl 0, .inl 0) zl24 3000 = true := by decide +kernel
theorem zt24 : Con P9 13 zn24 := con_of J9_ok (d := 10) (n := 2) (cs_cons (Con_le (by decide) (zt0)) (cs_cons (Con_le (by decide) (zt23)) (cs_nil))) zk24
/-- TwoMouths.town -/
def zn25 : aN := (147, [.inl [0]], [], [], [], [(1, 1), (1, 2), (1, 3), (1, 4), (1, 5), (4, 4), (4, 5), (5, 1000), (6, 1000), (7, 1000), (8, 3), (9, 1000), (10, 1000), (11, 1000), (13, 4), (13, 5), (14, 1000), (15, 1000), (16, 1000), (17, 3), (18, 1000), (19, 1000), (20, 1000)], [(some (.inr (.inl (.inr (0, 1, 0)))), [], [((-2147483648), 2147483647)], [])])
def zl25 : List aL := []
theorem zk25 : chkM P9 (mkQ P9 zn25.2.2.2.2.2.1 [zn24] 3000 2) zn25 (.inl 0, .inl 0, .inl 0) zl25 3000 = true := by decide +kernel
theorem zt25 : Con P9 16 zn25 := con_of J9_ok (d := 13) (n := 2) (cs_cons (Con_le (by decide) (zt24)) (cs_nil)) zk25
/-- TwoMouths.feed -/
def zn26 : aN := (108, [.inl [0], .inr (.inl (.inr (0, 1, 0))), .inr (.inl (.inr (0, 1, 1))), .inr (.inl (.inr (0, 1, 2))), .inr (.inl (.inr (0, 1, 3))), .inr (.inl (.inr (0, 1, 4)))], [], [((-2147483648), 2147483647), ((-2147483648), 2147483647), ((-2147483648), 2147483647), ((-2147483648), 2147483647), ((-2147483648), 2147483647)], [], [(1, 1), (2, 1000)], [(some (.inr (.inl (.inr (0, 1, 5)))), [], [((-2147483648), 2147483647), ((-2147483648), 2147483647), ((-2147483648), 2147483647), ((-2147483648), 2147483647), ((-2147483648), 2147483647), ((-1), 400)], [])])
def zl26 : List aL := []
theorem zk26 : chkM P9 (mkQ P9 zn26.2.2.2.2.2.1 [zn21] 3000 0) zn26 (.inl 0, .inl 0, .inl 0) zl26 3000 = true := by decide +kernel
theorem zt26 : Con P9 2 zn26 := con_of J9_ok (d := 1) (n := 0) (cs_cons (Con_le (by decide) (zt21)) (cs_nil)) zk26
/-- TwoMouths.end -/
def zn27 : aN := (106, [.inl [0], .inr (.inl (.inr (0, 1, 0)))], [], [((-2147483648), 2147483647)], [], [(1, 1)], [(some (.inr (.inl (.inr (0, 1, 1)))), [], [((-2147483648), 2147483647), ((-1), 400)], [])])
def zl27 : List aL := []
theorem zk27 : chkM P9 (mkQ P9 zn27.2.2.2.2.2.1 [] 3000 0) zn27 (.inl 0, .inl 0, .inl 0) zl27 3000 = true := by decide +kernel
theorem zt27 : Con P9 1 zn27 := con_of J9_ok (d := 0) (n := 0) (cs_nil) zk27
/-- TwoMouths$Law.addCode (by hand) -/
def zn28 : aN := (1, [.inl [80, 85, 90, 95, 100, 105], .inr (.inl (.inl 0)), .inr (.inl (.inr (0, 1, 0)))], [], [((-2147483648), 2147483647)], [], [(80, 1), (80, 5), (81, 1000), (85, 1), (85, 5), (86, 1000), (90, 1), (90, 5), (91, 1000), (95, 1), (95, 5), (96, 1000), (100, 1), (100, 5), (101, 1000), (105, 1), (105, 5), (106, 1000)], [(none, [], [((-2147483648), 2147483647)], [])])
/-- TwoMouths$Law.addCode (by hand) -/
def zn29 : aN := (1, [.inl [80, 85, 90, 95, 100, 105], .inr (.inl (.inl 1)), .inr (.inl (.inr (0, 1, 0)))], [], [(0, 8)], [], [(80, 1), (80, 5), (81, 1000), (85, 1), (85, 5), (86, 1000), (90, 1), (90, 5), (91, 1000), (95, 1), (95, 5), (96, 1000), (100, 1), (100, 5), (101, 1000), (105, 1), (105, 5), (106, 1000)], [(none, [], [(0, 8)], [])])
/-- TwoMouths$Law.addCode (by hand) -/
def zn30 : aN := (1, [.inl [80, 85, 90, 95, 100, 105], .inr (.inl (.inr (0, 1, 0))), .inr (.inl (.inl 0))], [], [(0, 13)], [], [(80, 1), (80, 5), (81, 1000), (85, 1), (85, 5), (86, 1000), (90, 1), (90, 5), (91, 1000), (95, 1), (95, 5), (96, 1000), (100, 1), (100, 5), (101, 1000), (105, 1), (105, 5), (106, 1000)], [(none, [], [(0, 13)], [])])
/-- TwoMouths$LawReader.wordRead -/
def zn31 : aN := (17, [.inl [110]], [], [], [], [], [(some (.inr (.inl (.inr (0, 1, 0)))), [], [((-1), 8)], [])])
def zl31 : List aL := []
theorem zk31 : chkM P9 (mkQ P9 zn31.2.2.2.2.2.1 [zn7, zn8, zn9, zn10, zn11, zn12, zn13, zn14, zn15] 3000 0) zn31 (.inl 0, .inl 0, .inl 0) zl31 3000 = true := by decide +kernel
theorem zt31 : Con P9 6 zn31 := con_of J9_ok (d := 5) (n := 0) (cs_cons (Con_le (by decide) (zt7)) (cs_cons (Con_le (by decide) (zt8)) (cs_cons (Con_le (by decide) (zt9)) (cs_cons (Con_le (by decide) (zt10)) (cs_cons (Con_le (by decide) (zt11)) (cs_cons (Con_le (by decide) (zt12)) (cs_cons (Con_le (by decide) (zt13)) (cs_cons (Con_le (by decide) (zt14)) (cs_cons (Con_le (by decide) (zt15)) (cs_nil)))))))))) zk31
/-- TwoMouths$LawReader.readValue -/
def zn32 : aN := (16, [.inl [110]], [], [], [], [(1, 2), (1, 3), (1, 4), (1, 5), (80, 1), (80, 5), (81, 1000), (85, 1), (85, 5), (86, 1000), (90, 1), (90, 5), (91, 1000), (95, 1), (95, 5), (96, 1000), (100, 1), (100, 5), (101, 1000), (105, 1), (105, 5), (106, 1000), (110, 2)], [(some (.inr (.inl (.inl 1))), [], [], []), (some (.inr (.inl (.inl 0))), [], [], [])])
def zl32 : List aL := []
theorem zk32 : chkM P9 (mkQ P9 zn32.2.2.2.2.2.1 [zn0, zn1, zn20, zn28, zn29, zn31] 3000 2) zn32 (.inl 0, .inl 0, .inl 0) zl32 3000 = true := by decide +kernel
theorem zt32 (a28 : Con P9 1 zn28) (a29 : Con P9 1 zn29) : Con P9 9 zn32 := con_of J9_ok (d := 6) (n := 2) (cs_cons (Con_le (by decide) (zt0)) (cs_cons (Con_le (by decide) (zt1)) (cs_cons (Con_le (by decide) (zt20)) (cs_cons (Con_le (by decide) a28) (cs_cons (Con_le (by decide) a29) (cs_cons (Con_le (by decide) (zt31)) (cs_nil))))))) zk32
/-- TwoMouths$LawReader.readSum -/
def zn33 : aN := (14, [.inl [110]], [], [], [], [(1, 2), (1, 3), (1, 4), (1, 5), (80, 1), (80, 5), (81, 1000), (85, 1), (85, 5), (86, 1000), (90, 1), (90, 5), (91, 1000), (95, 1), (95, 5), (96, 1000), (100, 1), (100, 5), (101, 1000), (105, 1), (105, 5), (106, 1000), (110, 2)], [(some (.inr (.inl (.inl 0))), [], [], []), (some (.inr (.inl (.inl 1))), [], [], [])])
def zl33 : List aL := [((13, [(0, .inl [110]), (1, .inr (.inl (.inr (0, 1, 1)))), (2, .inr (.inl (.inr (0, 1, 0))))], [], [], [(0, 400), ((-1), 11)], []), (.inr (801, (-2), 0), .inl 0, .inl 0))]
theorem zk33 : chkM P9 (mkQ P9 zn33.2.2.2.2.2.1 [zn0, zn30, zn32] 3000 0) zn33 (.inl 802, .inl 0, .inl 0) zl33 3000 = true := by decide +kernel
theorem zt33 (a28 : Con P9 1 zn28) (a29 : Con P9 1 zn29) (a30 : Con P9 1 zn30) : Con P9 10 zn33 := con_of J9_ok (d := 9) (n := 0) (cs_cons (Con_le (by decide) (zt0)) (cs_cons (Con_le (by decide) a30) (cs_cons (Con_le (by decide) (zt32 a28 a29)) (cs_nil)))) zk33
/-- TwoMouths$LawReader.readSign -/
def zn34 : aN := (13, [.inl [110]], [], [], [], [(1, 2), (1, 5), (110, 2)], [(some (.inr (.inl (.inl (-1)))), [], [], []), (some (.inr (.inl (.inr (0, 1, 0)))), [], [(5, 9)], [])])
def zl34 : List aL := []
theorem zk34 : chkM P9 (mkQ P9 zn34.2.2.2.2.2.1 [zn0] 3000 2) zn34 (.inl 0, .inl 0, .inl 0) zl34 3000 = true := by decide +kernel
theorem zt34 : Con P9 4 zn34 := con_of J9_ok (d := 1) (n := 2) (cs_cons (Con_le (by decide) (zt0)) (cs_nil)) zk34
/-- TwoMouths$LawReader.readFact 10 -/
def zn35 : aN := (12, [.inl [110], .inr (.inl (.inl 10))], [], [], [], [(1, 2), (1, 3), (1, 4), (1, 5), (80, 1), (80, 5), (81, 1000), (85, 1), (85, 5), (86, 1000), (90, 1), (90, 5), (91, 1000), (95, 1), (95, 5), (96, 1000), (100, 1), (100, 5), (101, 1000), (105, 1), (105, 5), (106, 1000), (110, 2)], [(some (.inr (.inl (.inl 0))), [], [], []), (some (.inr (.inl (.inl 1))), [], [], [])])
def zl35 : List aL := []
theorem zk35 : chkM P9 (mkQ P9 zn35.2.2.2.2.2.1 [zn0, zn1, zn6, zn30, zn33, zn34] 3000 1) zn35 (.inl 0, .inl 0, .inl 0) zl35 3000 = true := by decide +kernel
theorem zt35 (a28 : Con P9 1 zn28) (a29 : Con P9 1 zn29) (a30 : Con P9 1 zn30) : Con P9 12 zn35 := con_of J9_ok (d := 10) (n := 1) (cs_cons (Con_le (by decide) (zt0)) (cs_cons (Con_le (by decide) (zt1)) (cs_cons (Con_le (by decide) (zt6)) (cs_cons (Con_le (by decide) a30) (cs_cons (Con_le (by decide) (zt33 a28 a29 a30)) (cs_cons (Con_le (by decide) (zt34)) (cs_nil))))))) zk35
/-- TwoMouths$LawReader.readTest 10 -/
def zn36 : aN := (15, [.inl [110], .inr (.inl (.inl 10))], [], [], [], [(1, 2), (1, 3), (1, 4), (1, 5), (80, 1), (80, 5), (81, 1000), (85, 1), (85, 5), (86, 1000), (90, 1), (90, 5), (91, 1000), (95, 1), (95, 5), (96, 1000), (100, 1), (100, 5), (101, 1000), (105, 1), (105, 5), (106, 1000), (110, 2)], [(some (.inr (.inl (.inl 0))), [], [], []), (some (.inr (.inl (.inl 1))), [], [], [])])
def zl36 : List aL := [((14, [(0, .inl [110]), (1, .inr (.inl (.inl 10))), (2, .inr (.inl (.inr (0, 1, 0)))), (3, .inr (.inl (.inr (0, 1, 1))))], [], [], [(0, 1), (0, 400)], []), (.inr (801, (-2), 1), .inl 0, .inl 0))]
theorem zk36 : chkM P9 (mkQ P9 zn36.2.2.2.2.2.1 [zn1, zn4, zn5, zn30, zn35] 3000 1) zn36 (.inl 802, .inl 0, .inl 0) zl36 3000 = true := by decide +kernel
theorem zt36 (a28 : Con P9 1 zn28) (a29 : Con P9 1 zn29) (a30 : Con P9 1 zn30) : Con P9 14 zn36 := con_of J9_ok (d := 12) (n := 1) (cs_cons (Con_le (by decide) (zt1)) (cs_cons (Con_le (by decide) (zt4)) (cs_cons (Con_le (by decide) (zt5)) (cs_cons (Con_le (by decide) a30) (cs_cons (Con_le (by decide) (zt35 a28 a29 a30)) (cs_nil)))))) zk36
/-- TwoMouths$LawReader.readFact 9 -/
def zn37 : aN := (12, [.inl [110], .inr (.inl (.inl 9))], [], [], [], [(1, 2), (1, 3), (1, 4), (1, 5), (80, 1), (80, 5), (81, 1000), (85, 1), (85, 5), (86, 1000), (90, 1), (90, 5), (91, 1000), (95, 1), (95, 5), (96, 1000), (100, 1), (100, 5), (101, 1000), (105, 1), (105, 5), (106, 1000), (110, 2)], [(some (.inr (.inl (.inl 0))), [], [], []), (some (.inr (.inl (.inl 1))), [], [], [])])
def zl37 : List aL := []
theorem zk37 : chkM P9 (mkQ P9 zn37.2.2.2.2.2.1 [zn0, zn1, zn6, zn30, zn33, zn34, zn35, zn36] 3000 1) zn37 (.inl 0, .inl 0, .inl 0) zl37 3000 = true := by decide +kernel
theorem zt37 (a28 : Con P9 1 zn28) (a29 : Con P9 1 zn29) (a30 : Con P9 1 zn30) : Con P9 16 zn37 := con_of J9_ok (d := 14) (n := 1) (cs_cons (Con_le (by decide) (zt0)) (cs_cons (Con_le (by decide) (zt1)) (cs_cons (Con_le (by decide) (zt6)) (cs_cons (Con_le (by decide) a30) (cs_cons (Con_le (by decide) (zt33 a28 a29 a30)) (cs_cons (Con_le (by decide) (zt34)) (cs_cons (Con_le (by decide) (zt35 a28 a29 a30)) (cs_cons (Con_le (by decide) (zt36 a28 a29 a30)) (cs_nil))))))))) zk37
/-- TwoMouths$LawReader.readTest 9 -/
def zn38 : aN := (15, [.inl [110], .inr (.inl (.inl 9))], [], [], [], [(1, 2), (1, 3), (1, 4), (1, 5), (80, 1), (80, 5), (81, 1000), (85, 1), (85, 5), (86, 1000), (90, 1), (90, 5), (91, 1000), (95, 1), (95, 5), (96, 1000), (100, 1), (100, 5), (101, 1000), (105, 1), (105, 5), (106, 1000), (110, 2)], [(some (.inr (.inl (.inl 0))), [], [], []), (some (.inr (.inl (.inl 1))), [], [], [])])
def zl38 : List aL := [((14, [(0, .inl [110]), (1, .inr (.inl (.inl 9))), (2, .inr (.inl (.inr (0, 1, 0)))), (3, .inr (.inl (.inr (0, 1, 1))))], [], [], [(0, 1), (0, 400)], []), (.inr (801, (-2), 1), .inl 0, .inl 0))]
theorem zk38 : chkM P9 (mkQ P9 zn38.2.2.2.2.2.1 [zn1, zn4, zn5, zn30, zn37] 3000 1) zn38 (.inl 802, .inl 0, .inl 0) zl38 3000 = true := by decide +kernel
theorem zt38 (a28 : Con P9 1 zn28) (a29 : Con P9 1 zn29) (a30 : Con P9 1 zn30) : Con P9 18 zn38 := con_of J9_ok (d := 16) (n := 1) (cs_cons (Con_le (by decide) (zt1)) (cs_cons (Con_le (by decide) (zt4)) (cs_cons (Con_le (by decide) (zt5)) (cs_cons (Con_le (by decide) a30) (cs_cons (Con_le (by decide) (zt37 a28 a29 a30)) (cs_nil)))))) zk38
/-- TwoMouths$LawReader.readFact 8 -/
def zn39 : aN := (12, [.inl [110], .inr (.inl (.inl 8))], [], [], [], [(1, 2), (1, 3), (1, 4), (1, 5), (80, 1), (80, 5), (81, 1000), (85, 1), (85, 5), (86, 1000), (90, 1), (90, 5), (91, 1000), (95, 1), (95, 5), (96, 1000), (100, 1), (100, 5), (101, 1000), (105, 1), (105, 5), (106, 1000), (110, 2)], [(some (.inr (.inl (.inl 0))), [], [], []), (some (.inr (.inl (.inl 1))), [], [], [])])
def zl39 : List aL := []
theorem zk39 : chkM P9 (mkQ P9 zn39.2.2.2.2.2.1 [zn0, zn1, zn6, zn30, zn33, zn34, zn37, zn38] 3000 1) zn39 (.inl 0, .inl 0, .inl 0) zl39 3000 = true := by decide +kernel
theorem zt39 (a28 : Con P9 1 zn28) (a29 : Con P9 1 zn29) (a30 : Con P9 1 zn30) : Con P9 20 zn39 := con_of J9_ok (d := 18) (n := 1) (cs_cons (Con_le (by decide) (zt0)) (cs_cons (Con_le (by decide) (zt1)) (cs_cons (Con_le (by decide) (zt6)) (cs_cons (Con_le (by decide) a30) (cs_cons (Con_le (by decide) (zt33 a28 a29 a30)) (cs_cons (Con_le (by decide) (zt34)) (cs_cons (Con_le (by decide) (zt37 a28 a29 a30)) (cs_cons (Con_le (by decide) (zt38 a28 a29 a30)) (cs_nil))))))))) zk39
/-- TwoMouths$LawReader.readTest 8 -/
def zn40 : aN := (15, [.inl [110], .inr (.inl (.inl 8))], [], [], [], [(1, 2), (1, 3), (1, 4), (1, 5), (80, 1), (80, 5), (81, 1000), (85, 1), (85, 5), (86, 1000), (90, 1), (90, 5), (91, 1000), (95, 1), (95, 5), (96, 1000), (100, 1), (100, 5), (101, 1000), (105, 1), (105, 5), (106, 1000), (110, 2)], [(some (.inr (.inl (.inl 0))), [], [], []), (some (.inr (.inl (.inl 1))), [], [], [])])
def zl40 : List aL := [((14, [(0, .inl [110]), (1, .inr (.inl (.inl 8))), (2, .inr (.inl (.inr (0, 1, 0)))), (3, .inr (.inl (.inr (0, 1, 1))))], [], [], [(0, 1), (0, 400)], []), (.inr (801, (-2), 1), .inl 0, .inl 0))]
theorem zk40 : chkM P9 (mkQ P9 zn40.2.2.2.2.2.1 [zn1, zn4, zn5, zn30, zn39] 3000 1) zn40 (.inl 802, .inl 0, .inl 0) zl40 3000 = true := by decide +kernel
theorem zt40 (a28 : Con P9 1 zn28) (a29 : Con P9 1 zn29) (a30 : Con P9 1 zn30) : Con P9 22 zn40 := con_of J9_ok (d := 20) (n := 1) (cs_cons (Con_le (by decide) (zt1)) (cs_cons (Con_le (by decide) (zt4)) (cs_cons (Con_le (by decide) (zt5)) (cs_cons (Con_le (by decide) a30) (cs_cons (Con_le (by decide) (zt39 a28 a29 a30)) (cs_nil)))))) zk40
/-- TwoMouths$LawReader.readFact 7 -/
def zn41 : aN := (12, [.inl [110], .inr (.inl (.inl 7))], [], [], [], [(1, 2), (1, 3), (1, 4), (1, 5), (80, 1), (80, 5), (81, 1000), (85, 1), (85, 5), (86, 1000), (90, 1), (90, 5), (91, 1000), (95, 1), (95, 5), (96, 1000), (100, 1), (100, 5), (101, 1000), (105, 1), (105, 5), (106, 1000), (110, 2)], [(some (.inr (.inl (.inl 0))), [], [], []), (some (.inr (.inl (.inl 1))), [], [], [])])
def zl41 : List aL := []
theorem zk41 : chkM P9 (mkQ P9 zn41.2.2.2.2.2.1 [zn0, zn1, zn6, zn30, zn33, zn34, zn39, zn40] 3000 1) zn41 (.inl 0, .inl 0, .inl 0) zl41 3000 = true := by decide +kernel
theorem zt41 (a28 : Con P9 1 zn28) (a29 : Con P9 1 zn29) (a30 : Con P9 1 zn30) : Con P9 24 zn41 := con_of J9_ok (d := 22) (n := 1) (cs_cons (Con_le (by decide) (zt0)) (cs_cons (Con_le (by decide) (zt1)) (cs_cons (Con_le (by decide) (zt6)) (cs_cons (Con_le (by decide) a30) (cs_cons (Con_le (by decide) (zt33 a28 a29 a30)) (cs_cons (Con_le (by decide) (zt34)) (cs_cons (Con_le (by decide) (zt39 a28 a29 a30)) (cs_cons (Con_le (by decide) (zt40 a28 a29 a30)) (cs_nil))))))))) zk41
/-- TwoMouths$LawReader.readTest 7 -/
def zn42 : aN := (15, [.inl [110], .inr (.inl (.inl 7))], [], [], [], [(1, 2), (1, 3), (1, 4), (1, 5), (80, 1), (80, 5), (81, 1000), (85, 1), (85, 5), (86, 1000), (90, 1), (90, 5), (91, 1000), (95, 1), (95, 5), (96, 1000), (100, 1), (100, 5), (101, 1000), (105, 1), (105, 5), (106, 1000), (110, 2)], [(some (.inr (.inl (.inl 0))), [], [], []), (some (.inr (.inl (.inl 1))), [], [], [])])
def zl42 : List aL := [((14, [(0, .inl [110]), (1, .inr (.inl (.inl 7))), (2, .inr (.inl (.inr (0, 1, 0)))), (3, .inr (.inl (.inr (0, 1, 1))))], [], [], [(0, 1), (0, 400)], []), (.inr (801, (-2), 1), .inl 0, .inl 0))]
theorem zk42 : chkM P9 (mkQ P9 zn42.2.2.2.2.2.1 [zn1, zn4, zn5, zn30, zn41] 3000 1) zn42 (.inl 802, .inl 0, .inl 0) zl42 3000 = true := by decide +kernel
theorem zt42 (a28 : Con P9 1 zn28) (a29 : Con P9 1 zn29) (a30 : Con P9 1 zn30) : Con P9 26 zn42 := con_of J9_ok (d := 24) (n := 1) (cs_cons (Con_le (by decide) (zt1)) (cs_cons (Con_le (by decide) (zt4)) (cs_cons (Con_le (by decide) (zt5)) (cs_cons (Con_le (by decide) a30) (cs_cons (Con_le (by decide) (zt41 a28 a29 a30)) (cs_nil)))))) zk42
/-- TwoMouths$LawReader.readFact 6 -/
def zn43 : aN := (12, [.inl [110], .inr (.inl (.inl 6))], [], [], [], [(1, 2), (1, 3), (1, 4), (1, 5), (80, 1), (80, 5), (81, 1000), (85, 1), (85, 5), (86, 1000), (90, 1), (90, 5), (91, 1000), (95, 1), (95, 5), (96, 1000), (100, 1), (100, 5), (101, 1000), (105, 1), (105, 5), (106, 1000), (110, 2)], [(some (.inr (.inl (.inl 0))), [], [], []), (some (.inr (.inl (.inl 1))), [], [], [])])
def zl43 : List aL := []
theorem zk43 : chkM P9 (mkQ P9 zn43.2.2.2.2.2.1 [zn0, zn1, zn6, zn30, zn33, zn34, zn41, zn42] 3000 1) zn43 (.inl 0, .inl 0, .inl 0) zl43 3000 = true := by decide +kernel
theorem zt43 (a28 : Con P9 1 zn28) (a29 : Con P9 1 zn29) (a30 : Con P9 1 zn30) : Con P9 28 zn43 := con_of J9_ok (d := 26) (n := 1) (cs_cons (Con_le (by decide) (zt0)) (cs_cons (Con_le (by decide) (zt1)) (cs_cons (Con_le (by decide) (zt6)) (cs_cons (Con_le (by decide) a30) (cs_cons (Con_le (by decide) (zt33 a28 a29 a30)) (cs_cons (Con_le (by decide) (zt34)) (cs_cons (Con_le (by decide) (zt41 a28 a29 a30)) (cs_cons (Con_le (by decide) (zt42 a28 a29 a30)) (cs_nil))))))))) zk43
/-- TwoMouths$LawReader.readTest 6 -/
def zn44 : aN := (15, [.inl [110], .inr (.inl (.inl 6))], [], [], [], [(1, 2), (1, 3), (1, 4), (1, 5), (80, 1), (80, 5), (81, 1000), (85, 1), (85, 5), (86, 1000), (90, 1), (90, 5), (91, 1000), (95, 1), (95, 5), (96, 1000), (100, 1), (100, 5), (101, 1000), (105, 1), (105, 5), (106, 1000), (110, 2)], [(some (.inr (.inl (.inl 0))), [], [], []), (some (.inr (.inl (.inl 1))), [], [], [])])
def zl44 : List aL := [((14, [(0, .inl [110]), (1, .inr (.inl (.inl 6))), (2, .inr (.inl (.inr (0, 1, 0)))), (3, .inr (.inl (.inr (0, 1, 1))))], [], [], [(0, 1), (0, 400)], []), (.inr (801, (-2), 1), .inl 0, .inl 0))]
theorem zk44 : chkM P9 (mkQ P9 zn44.2.2.2.2.2.1 [zn1, zn4, zn5, zn30, zn43] 3000 1) zn44 (.inl 802, .inl 0, .inl 0) zl44 3000 = true := by decide +kernel
theorem zt44 (a28 : Con P9 1 zn28) (a29 : Con P9 1 zn29) (a30 : Con P9 1 zn30) : Con P9 30 zn44 := con_of J9_ok (d := 28) (n := 1) (cs_cons (Con_le (by decide) (zt1)) (cs_cons (Con_le (by decide) (zt4)) (cs_cons (Con_le (by decide) (zt5)) (cs_cons (Con_le (by decide) a30) (cs_cons (Con_le (by decide) (zt43 a28 a29 a30)) (cs_nil)))))) zk44
/-- TwoMouths$LawReader.readFact 5 -/
def zn45 : aN := (12, [.inl [110], .inr (.inl (.inl 5))], [], [], [], [(1, 2), (1, 3), (1, 4), (1, 5), (80, 1), (80, 5), (81, 1000), (85, 1), (85, 5), (86, 1000), (90, 1), (90, 5), (91, 1000), (95, 1), (95, 5), (96, 1000), (100, 1), (100, 5), (101, 1000), (105, 1), (105, 5), (106, 1000), (110, 2)], [(some (.inr (.inl (.inl 0))), [], [], []), (some (.inr (.inl (.inl 1))), [], [], [])])
def zl45 : List aL := []
theorem zk45 : chkM P9 (mkQ P9 zn45.2.2.2.2.2.1 [zn0, zn1, zn6, zn30, zn33, zn34, zn43, zn44] 3000 1) zn45 (.inl 0, .inl 0, .inl 0) zl45 3000 = true := by decide +kernel
theorem zt45 (a28 : Con P9 1 zn28) (a29 : Con P9 1 zn29) (a30 : Con P9 1 zn30) : Con P9 32 zn45 := con_of J9_ok (d := 30) (n := 1) (cs_cons (Con_le (by decide) (zt0)) (cs_cons (Con_le (by decide) (zt1)) (cs_cons (Con_le (by decide) (zt6)) (cs_cons (Con_le (by decide) a30) (cs_cons (Con_le (by decide) (zt33 a28 a29 a30)) (cs_cons (Con_le (by decide) (zt34)) (cs_cons (Con_le (by decide) (zt43 a28 a29 a30)) (cs_cons (Con_le (by decide) (zt44 a28 a29 a30)) (cs_nil))))))))) zk45
