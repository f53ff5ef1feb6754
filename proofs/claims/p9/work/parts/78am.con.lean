set_option maxRecDepth 1000000
/-- TwoMouths$Spread.passOn A -/
def zn94 : aN := (44, [.inl [114], .inr (.inl (.inr (0, 1, 0)))], [(114, 1, .inl [17])], [(0, 29)], [], [(114, 15), (114, 16), (120, 1000), (126, 1000), (130, 1000), (134, 1000), (138, 1000), (142, 1000), (146, 1000), (150, 1000), (154, 1000), (158, 1000), (162, 1000)], [(none, [], [(0, 29)], [])])
def zl94 : List aL := []
theorem zk94 : chkM P9 (mkQ P9 zn94.2.2.2.2.2.1 [zn70] 3000 2) zn94 (.inl 0, .inl 0, .inl 0) zl94 3000 = true := by decide +kernel
theorem zt94 : Con P9 9 zn94 := con_of J9_ok (d := 6) (n := 2) (cs_cons (Con_le (by decide) (zt70)) (cs_nil)) zk94
/-- TwoMouths$Spread.isTold B -/
def zn95 : aN := (43, [.inl [114], .inr (.inl (.inr (0, 1, 0)))], [(114, 1, .inl [163])], [(0, 30)], [], [(84, 1000), (89, 1000), (94, 1000), (99, 1000), (104, 1000), (109, 1000), (122, 1000)], [(some (.inr (.inl (.inl 0))), [], [(0, 30)], []), (some (.inr (.inl (.inr (0, 1, 1)))), [], [(0, 30), (0, 1)], [])])
def zl95 : List aL := []
theorem zk95 : chkM P9 (mkQ P9 zn95.2.2.2.2.2.1 [zn66, zn67, zn88] 3000 2) zn95 (.inl 0, .inl 0, .inl 0) zl95 3000 = true := by decide +kernel
theorem zt95 (a87 : Con P9 1 zn87) : Con P9 8 zn95 := con_of J9_ok (d := 5) (n := 2) (cs_cons (Con_le (by decide) (zt66)) (cs_cons (Con_le (by decide) (zt67)) (cs_cons (Con_le (by decide) (zt88 a87)) (cs_nil)))) zk95
/-- TwoMouths$Spread.passOn B -/
def zn96 : aN := (44, [.inl [114], .inr (.inl (.inr (0, 1, 0)))], [(114, 1, .inl [163])], [(0, 30)], [], [(114, 15), (114, 16), (120, 1000), (126, 1000), (130, 1000), (134, 1000), (138, 1000), (142, 1000), (146, 1000), (150, 1000), (154, 1000), (158, 1000), (162, 1000)], [(none, [], [(0, 30)], [])])
def zl96 : List aL := []
theorem zk96 : chkM P9 (mkQ P9 zn96.2.2.2.2.2.1 [zn70] 3000 2) zn96 (.inl 0, .inl 0, .inl 0) zl96 3000 = true := by decide +kernel
theorem zt96 : Con P9 9 zn96 := con_of J9_ok (d := 6) (n := 2) (cs_cons (Con_le (by decide) (zt70)) (cs_nil)) zk96
/-- TwoMouths$Spread.sortByHour A -/
def zn97 : aN := (47, [.inl [114]], [(114, 1, .inl [17]), (17, 3, .inr (.inl (.inr (0, 1, 0))))], [(0, 30)], [], [(121, 1000)], [(none, [], [(0, 30)], [.inr (.inr (.inr (121, 29, .inr (0, 1, 0))))])])
def zl97 : List aL := [((18, [(0, .inl [114]), (1, .inr (.inl (.inr (0, 1, 0)))), (2, .inr (.inl (.inr (0, 1, 1))))], [], [(114, 1, .inl [17]), (17, 3, .inr (.inl (.inr (0, 1, 0))))], [(0, 30), (0, 30)], [.inr (.inr (.inr (121, 29, .inr (0, 1, 1)))), .inl (0, 1, 0)]), (.inr (63, (-2), 1), .inl 0, .inl 0)), ((25, [(0, .inl [114]), (1, .inr (.inl (.inr (0, 1, 0)))), (2, .inr (.inl (.inr (0, 1, 1)))), (3, .inr (.inl (.inr (0, 1, 1))))], [], [(114, 1, .inl [17]), (17, 3, .inr (.inl (.inr (0, 1, 0))))], [(0, 30), (0, 29)], [.inr (.inr (.inr (121, 29, .inr (0, 1, 1)))), .inl (0, 1, 1)]), (.inr (62, (-2), 1), .inr (0, 1, 1), .inl 0)), ((25, [(0, .inl [114]), (1, .inr (.inl (.inr (0, 1, 0)))), (2, .inr (.inl (.inr (0, 1, 1)))), (3, .inr (.inl (.inr (0, 1, 2))))], [], [(114, 1, .inl [17]), (17, 3, .inr (.inl (.inr (0, 1, 0))))], [(0, 30), (0, 29), (0, 28)], [.inr (.inr (.inr (121, 29, .inr (1, 1, 1)))), .inl (0, 1, 1), .inl (1, 2, 1)]), (.inr (62, (-2), 1), .inr (0, 1, 2), .inl 0))]
theorem zk97 : chkM P9 (mkQ P9 zn97.2.2.2.2.2.1 [] 3000 0) zn97 (.inl 100, .inl 0, .inl 0) zl97 3000 = true := by decide +kernel
theorem zt97 : Con P9 1 zn97 := con_of J9_ok (d := 0) (n := 0) (cs_nil) zk97
/-- TwoMouths$Spread.run A -/
def zn98 : aN := (46, [.inl [114], .inr (.inl (.inr (0, 1, 0)))], [(114, 1, .inl [17])], [((-2147483648), 2147483647)], [], [(84, 1000), (89, 1000), (94, 1000), (99, 1000), (104, 1000), (109, 1000), (111, 1), (112, 1000), (113, 1000), (114, 15), (114, 16), (114, 19), (117, 1000), (118, 1000), (119, 1000), (120, 1000), (121, 1000), (122, 1000), (124, 1000), (126, 1000), (128, 1000), (130, 1000), (132, 1000), (134, 1000), (136, 1000), (138, 1000), (140, 1000), (142, 1000), (144, 1000), (146, 1000), (148, 1000), (150, 1000), (152, 1000), (154, 1000), (156, 1000), (158, 1000), (160, 1000), (162, 1000)], [(none, [], [((-2147483648), 2147483647)], [])])
def zl98 : List aL := [((26, [(0, .inl [114]), (1, .inr (.inl (.inr (0, 1, 0)))), (2, .inr (.inl (.inr (0, 1, 1)))), (3, .inr (.inl (.inr (0, 1, 2))))], [], [(114, 1, .inl [17]), (17, 3, .inr (.inl (.inr (0, 1, 1))))], [((-2147483648), 2147483647), (0, 30), (0, 30)], [.inr (.inr (.inr (121, 29, .inr (0, 1, 1)))), .inl (1, 2, 0)]), (.inr (30, (-1), 2), .inl 0, .inl 0))]
theorem zk98 : chkM P9 (mkQ P9 zn98.2.2.2.2.2.1 [zn89, zn90, zn93, zn94, zn97] 3000 1) zn98 (.inl 100, .inl 0, .inl 0) zl98 3000 = true := by decide +kernel
theorem zt98 (a87 : Con P9 1 zn87) : Con P9 11 zn98 := con_of J9_ok (d := 9) (n := 1) (cs_cons (Con_le (by decide) (zt89)) (cs_cons (Con_le (by decide) (zt90)) (cs_cons (Con_le (by decide) (zt93 a87)) (cs_cons (Con_le (by decide) (zt94)) (cs_cons (Con_le (by decide) (zt97)) (cs_nil)))))) zk98
/-- TwoMouths$Spread.sortByHour B -/
def zn99 : aN := (47, [.inl [114]], [(163, 3, .inr (.inl (.inr (0, 1, 0)))), (114, 1, .inl [163])], [(0, 31)], [], [(121, 1000)], [(none, [], [(0, 31)], [])])
def zl99 : List aL := [((18, [(0, .inl [114]), (1, .inr (.inl (.inr (0, 1, 0)))), (2, .inr (.inl (.inr (0, 1, 1))))], [], [(163, 3, .inr (.inl (.inr (0, 1, 0)))), (114, 1, .inl [163])], [(0, 31), (0, 2147483647)], []), (.inr (4294967295, (-2), 1), .inl 0, .inl 0)), ((25, [(0, .inl [114]), (1, .inr (.inl (.inr (0, 1, 0)))), (2, .inr (.inl (.inr (0, 1, 1)))), (3, .inr (.inl (.inr (0, 1, 2))))], [], [(163, 3, .inr (.inl (.inr (0, 1, 0)))), (114, 1, .inl [163])], [(1, 31), (0, 30), (0, 30)], []), (.inr (4294967294, (-2), 1), .inr (1, 2, 2), .inl 0))]
theorem zk99 : chkM P9 (mkQ P9 zn99.2.2.2.2.2.1 [] 3000 0) zn99 (.inl 4294967296, .inl 0, .inl 0) zl99 3000 = true := by decide +kernel
theorem zt99 : Con P9 1 zn99 := con_of J9_ok (d := 0) (n := 0) (cs_nil) zk99
/-- TwoMouths$Spread.run B -/
def zn100 : aN := (46, [.inl [114], .inr (.inl (.inr (0, 1, 0)))], [(114, 1, .inl [163])], [((-2147483648), 2147483647)], [], [(84, 1000), (89, 1000), (94, 1000), (99, 1000), (104, 1000), (109, 1000), (111, 1), (112, 1000), (113, 1000), (114, 15), (114, 16), (114, 19), (117, 1000), (118, 1000), (119, 1000), (120, 1000), (121, 1000), (122, 1000), (124, 1000), (126, 1000), (128, 1000), (130, 1000), (132, 1000), (134, 1000), (136, 1000), (138, 1000), (140, 1000), (142, 1000), (144, 1000), (146, 1000), (148, 1000), (150, 1000), (152, 1000), (154, 1000), (156, 1000), (158, 1000), (160, 1000), (162, 1000)], [(none, [], [((-2147483648), 2147483647)], [])])
def zl100 : List aL := [((26, [(0, .inl [114]), (1, .inr (.inl (.inr (0, 1, 0)))), (2, .inr (.inl (.inr (0, 1, 1)))), (3, .inr (.inl (.inr (0, 1, 2))))], [], [(114, 1, .inl [163])], [((-2147483648), 2147483647), (0, 31), (0, 31)], []), (.inr (63, (-2), 2), .inl 0, .inl 0))]
theorem zk100 : chkM P9 (mkQ P9 zn100.2.2.2.2.2.1 [zn89, zn90, zn95, zn96, zn99] 3000 1) zn100 (.inl 64, .inl 0, .inl 0) zl100 3000 = true := by decide +kernel
theorem zt100 (a87 : Con P9 1 zn87) : Con P9 11 zn100 := con_of J9_ok (d := 9) (n := 1) (cs_cons (Con_le (by decide) (zt89)) (cs_cons (Con_le (by decide) (zt90)) (cs_cons (Con_le (by decide) (zt95 a87)) (cs_cons (Con_le (by decide) (zt96)) (cs_cons (Con_le (by decide) (zt99)) (cs_nil)))))) zk100
/-- TwoMouths$Talks.containsAhead t -/
def zn101 : aN := (58, [.inl [17], .inr (.inl (.inr (0, 1, 0))), .inr (.inl (.inr (0, 1, 1))), .inr (.inl (.inr (0, 1, 2))), .inr (.inl (.inr (0, 1, 3)))], [], [(0, 30), ((-2147483648), 2147483647), ((-2147483648), 2147483647), ((-2147483648), 2147483647)], [], [], [(some (.inr (.inl (.inl 0))), [], [(0, 30), ((-2147483648), 2147483647), ((-2147483648), 2147483647), ((-2147483648), 2147483647)], []), (some (.inr (.inl (.inl 1))), [], [(1, 30), (0, 9), (0, 9), (0, 99)], [])])
def zl101 : List aL := [((3, [(0, .inl [17]), (1, .inr (.inl (.inr (0, 1, 0)))), (2, .inr (.inl (.inr (0, 1, 1)))), (3, .inr (.inl (.inr (0, 1, 2)))), (4, .inr (.inl (.inr (0, 1, 3)))), (5, .inr (.inl (.inr (0, 1, 4))))], [], [], [(0, 30), ((-2147483648), 2147483647), ((-2147483648), 2147483647), ((-2147483648), 2147483647), (0, 30)], []), (.inr (61, (-2), 4), .inl 0, .inl 0))]
theorem zk101 : chkM P9 (mkQ P9 zn101.2.2.2.2.2.1 [] 3000 1) zn101 (.inl 62, .inl 0, .inl 0) zl101 3000 = true := by decide +kernel
theorem zt101 : Con P9 2 zn101 := con_of J9_ok (d := 0) (n := 1) (cs_nil) zk101
/-- TwoMouths$Talks.containsAhead e -/
def zn102 : aN := (58, [.inl [21], .inr (.inl (.inr (0, 1, 0))), .inr (.inl (.inr (0, 1, 1))), .inr (.inl (.inr (0, 1, 2))), .inr (.inl (.inr (0, 1, 3)))], [], [(0, 30), ((-2147483648), 2147483647), ((-2147483648), 2147483647), ((-2147483648), 2147483647)], [], [], [(some (.inr (.inl (.inl 0))), [], [(0, 30), ((-2147483648), 2147483647), ((-2147483648), 2147483647), ((-2147483648), 2147483647)], []), (some (.inr (.inl (.inl 1))), [], [(1, 30), (0, 9), (0, 9), (0, 99)], [])])
def zl102 : List aL := [((3, [(0, .inl [21]), (1, .inr (.inl (.inr (0, 1, 0)))), (2, .inr (.inl (.inr (0, 1, 1)))), (3, .inr (.inl (.inr (0, 1, 2)))), (4, .inr (.inl (.inr (0, 1, 3)))), (5, .inr (.inl (.inr (0, 1, 4))))], [], [], [(0, 30), ((-2147483648), 2147483647), ((-2147483648), 2147483647), ((-2147483648), 2147483647), (0, 20)], []), (.inr (41, (-2), 4), .inl 0, .inl 0))]
theorem zk102 : chkM P9 (mkQ P9 zn102.2.2.2.2.2.1 [] 3000 1) zn102 (.inl 42, .inl 0, .inl 0) zl102 3000 = true := by decide +kernel
theorem zt102 : Con P9 2 zn102 := con_of J9_ok (d := 0) (n := 1) (cs_nil) zk102
/-- TwoMouths$State.canBe -/
def zn103 : aN := (50, [.inl [12], .inr (.inl (.inr (0, 1, 0)))], [], [(0, 19)], [], [], [(some (.inr (.inl (.inl 0))), [], [(0, 19)], []), (some (.inr (.inl (.inl 1))), [], [(0, 19)], [])])
def zl103 : List aL := []
theorem zk103 : chkM P9 (mkQ P9 zn103.2.2.2.2.2.1 [zn101, zn102] 3000 2) zn103 (.inl 0, .inl 0, .inl 0) zl103 3000 = true := by decide +kernel
theorem zt103 : Con P9 5 zn103 := con_of J9_ok (d := 2) (n := 2) (cs_cons (Con_le (by decide) (zt101)) (cs_cons (Con_le (by decide) (zt102)) (cs_nil))) zk103
/-- TwoMouths$State.possible -/
def zn104 : aN := (53, [.inl [12]], [], [], [], [], [(some (.inr (.inl (.inr (0, 1, 0)))), [], [(0, 2147483647)], [])])
def zl104 : List aL := [((4, [(0, .inl [12]), (1, .inr (.inl (.inr (0, 1, 1)))), (2, .inr (.inl (.inr (0, 1, 0))))], [], [], [(0, 20), (0, 2147483647)], []), (.inr (41, (-2), 0), .inl 0, .inl 0))]
theorem zk104 : chkM P9 (mkQ P9 zn104.2.2.2.2.2.1 [zn103] 3000 0) zn104 (.inl 42, .inl 0, .inl 0) zl104 3000 = true := by decide +kernel
theorem zt104 : Con P9 6 zn104 := con_of J9_ok (d := 5) (n := 0) (cs_cons (Con_le (by decide) (zt103)) (cs_nil)) zk104
/-- TwoMouths$State.firstWrongEntry -/
def zn105 : aN := (52, [.inl [12]], [], [], [], [], [(some (.inr (.inl (.inr (0, 1, 0)))), [], [((-2), 19)], [])])
def zl105 : List aL := [((2, [(0, .inl [12]), (1, .inr (.inl (.inr (0, 1, 0))))], [], [], [(0, 20)], []), (.inr (41, (-2), 0), .inl 0, .inl 0))]
theorem zk105 : chkM P9 (mkQ P9 zn105.2.2.2.2.2.1 [zn103] 3000 0) zn105 (.inl 42, .inl 0, .inl 0) zl105 3000 = true := by decide +kernel
theorem zt105 : Con P9 6 zn105 := con_of J9_ok (d := 5) (n := 0) (cs_cons (Con_le (by decide) (zt103)) (cs_nil)) zk105
/-- TwoMouths$State.seers -/
def zn106 : aN := (54, [.inl [12], .inr (.inl (.inr (0, 1, 0)))], [], [((-2147483648), 2147483647)], [], [], [(some (.inr (.inl (.inr (0, 1, 1)))), [], [((-2147483648), 2147483647), (0, 1023)], [])])
def zl106 : List aL := [((4, [(0, .inl [12]), (1, .inr (.inl (.inr (0, 1, 0)))), (2, .inr (.inl (.inr (0, 1, 2)))), (3, .inr (.inl (.inr (0, 1, 1))))], [], [], [((-2147483648), 2147483647), (0, 10), (0, 1023)], []), (.inr (21, (-2), 1), .inl 0, .inl 0)), ((21, [(0, .inl [12]), (1, .inr (.inl (.inr (0, 1, 0)))), (2, .inr (.inl (.inr (0, 1, 5)))), (3, .inr (.inl (.inr (0, 1, 4)))), (4, .inr (.inl (.inr (0, 1, 3)))), (5, .inr (.inl (.inr (0, 1, 2)))), (6, .inr (.inl (.inr (0, 1, 1))))], [], [], [((-2147483648), 2147483647), (0, 20), (0, 100), (0, 100), (0, 9), (0, 1023)], []), (.inr (20, (-2), 4), .inr (41, (-2), 1), .inl 0))]
theorem zk106 : chkM P9 (mkQ P9 zn106.2.2.2.2.2.1 [] 3000 1) zn106 (.inl 22, .inl 0, .inl 0) zl106 3000 = true := by decide +kernel
theorem zt106 : Con P9 2 zn106 := con_of J9_ok (d := 0) (n := 1) (cs_nil) zk106
/-- TwoMouths$Talks.takeSome -/
def zn107 : aN := (61, [.inl [163], .inl [21], .inr (.inl (.inr (0, 1, 0)))], [(163, 3, .inr (.inl (.inr (0, 1, 1))))], [((-2147483648), 2147483647), (0, 31)], [], [(163, 3), (164, 1000), (165, 1000), (166, 1000)], [(none, [], [((-2147483648), 2147483647), (0, 31)], [])])
def zl107 : List aL := [((7, [(0, .inl [163]), (1, .inl [21]), (2, .inr (.inl (.inr (0, 1, 0)))), (3, .inr (.inl (.inr (0, 1, 2))))], [], [(163, 3, .inr (.inl (.inr (0, 1, 3))))], [((-2147483648), 2147483647), (0, 31), (0, 20), (0, 31)], []), (.inr (41, (-2), 2), .inl 0, .inl 0))]
theorem zk107 : chkM P9 (mkQ P9 zn107.2.2.2.2.2.1 [] 3000 1) zn107 (.inl 42, .inl 0, .inl 0) zl107 3000 = true := by decide +kernel
theorem zt107 : Con P9 2 zn107 := con_of J9_ok (d := 0) (n := 1) (cs_nil) zk107
/-- TwoMouths$WayFinder.goOn 10 -/
def zn108 : aN := (92, [.inl [168], .inr (.inl (.inl 10)), .inr (.inl (.inr (0, 1, 0))), .inr (.inl (.inr (0, 1, 1))), .inr (.inl (.inr (0, 1, 2)))], [(114, 1, .inl [17])], [((-2147483648), 2147483647), (0, 1023), ((-2147483648), 2147483647)], [], [], [(some (.inr (.inl (.inl 0))), [], [((-2147483648), 2147483647), (0, 1023), ((-2147483648), 2147483647)], [])])
def zl108 : List aL := []
theorem zk108 : chkM P9 (mkQ P9 zn108.2.2.2.2.2.1 [] 3000 0) zn108 (.inl 0, .inl 0, .inl 0) zl108 3000 = true := by decide +kernel
theorem zt108 : Con P9 1 zn108 := con_of J9_ok (d := 0) (n := 0) (cs_nil) zk108
/-- TwoMouths$WayFinder.goOn 9 -/
def zn109 : aN := (92, [.inl [168], .inr (.inl (.inl 9)), .inr (.inl (.inr (0, 1, 0))), .inr (.inl (.inr (0, 1, 1))), .inr (.inl (.inr (0, 1, 2)))], [(114, 1, .inl [17])], [((-2147483648), 2147483647), (0, 1023), ((-2147483648), 2147483647)], [], [(169, 1000)], [(some (.inr (.inl (.inl 0))), [], [((-2147483648), 2147483647), (0, 1023), ((-2147483648), 2147483647)], []), (some (.inr (.inl (.inl 1))), [], [((-1), 9), (0, 1023), ((-2147483648), 98)], [])])
def zl109 : List aL := [((11, [(0, .inl [168]), (1, .inr (.inl (.inl 9))), (2, .inr (.inl (.inr (0, 1, 0)))), (3, .inr (.inl (.inr (0, 1, 1)))), (4, .inr (.inl (.inr (0, 1, 2)))), (5, .inr (.inl (.inr (0, 1, 3))))], [], [(114, 1, .inl [17])], [((-2147483648), 2147483647), (0, 1023), ((-2147483648), 2147483647), (0, 30)], []), (.inr (61, (-2), 3), .inl 0, .inl 0))]
theorem zk109 : chkM P9 (mkQ P9 zn109.2.2.2.2.2.1 [zn108] 3000 3) zn109 (.inl 62, .inl 0, .inl 0) zl109 3000 = true := by decide +kernel
theorem zt109 : Con P9 5 zn109 := con_of J9_ok (d := 1) (n := 3) (cs_cons (Con_le (by decide) (zt108)) (cs_nil)) zk109
/-- TwoMouths$WayFinder.goOn 8 -/
def zn110 : aN := (92, [.inl [168], .inr (.inl (.inl 8)), .inr (.inl (.inr (0, 1, 0))), .inr (.inl (.inr (0, 1, 1))), .inr (.inl (.inr (0, 1, 2)))], [(114, 1, .inl [17])], [((-2147483648), 2147483647), (0, 1023), ((-2147483648), 2147483647)], [], [(169, 1000)], [(some (.inr (.inl (.inl 0))), [], [((-2147483648), 2147483647), (0, 1023), ((-2147483648), 2147483647)], []), (some (.inr (.inl (.inl 1))), [], [((-1), 9), (0, 1023), ((-2147483648), 98)], [])])
def zl110 : List aL := [((11, [(0, .inl [168]), (1, .inr (.inl (.inl 8))), (2, .inr (.inl (.inr (0, 1, 0)))), (3, .inr (.inl (.inr (0, 1, 1)))), (4, .inr (.inl (.inr (0, 1, 2)))), (5, .inr (.inl (.inr (0, 1, 3))))], [], [(114, 1, .inl [17])], [((-2147483648), 2147483647), (0, 1023), ((-2147483648), 2147483647), (0, 30)], []), (.inr (61, (-2), 3), .inl 0, .inl 0))]
theorem zk110 : chkM P9 (mkQ P9 zn110.2.2.2.2.2.1 [zn109] 3000 3) zn110 (.inl 62, .inl 0, .inl 0) zl110 3000 = true := by decide +kernel
theorem zt110 : Con P9 9 zn110 := con_of J9_ok (d := 5) (n := 3) (cs_cons (Con_le (by decide) (zt109)) (cs_nil)) zk110
/-- TwoMouths$WayFinder.goOn 7 -/
def zn111 : aN := (92, [.inl [168], .inr (.inl (.inl 7)), .inr (.inl (.inr (0, 1, 0))), .inr (.inl (.inr (0, 1, 1))), .inr (.inl (.inr (0, 1, 2)))], [(114, 1, .inl [17])], [((-2147483648), 2147483647), (0, 1023), ((-2147483648), 2147483647)], [], [(169, 1000)], [(some (.inr (.inl (.inl 0))), [], [((-2147483648), 2147483647), (0, 1023), ((-2147483648), 2147483647)], []), (some (.inr (.inl (.inl 1))), [], [((-1), 9), (0, 1023), ((-2147483648), 98)], [])])
def zl111 : List aL := [((11, [(0, .inl [168]), (1, .inr (.inl (.inl 7))), (2, .inr (.inl (.inr (0, 1, 0)))), (3, .inr (.inl (.inr (0, 1, 1)))), (4, .inr (.inl (.inr (0, 1, 2)))), (5, .inr (.inl (.inr (0, 1, 3))))], [], [(114, 1, .inl [17])], [((-2147483648), 2147483647), (0, 1023), ((-2147483648), 2147483647), (0, 30)], []), (.inr (61, (-2), 3), .inl 0, .inl 0))]
theorem zk111 : chkM P9 (mkQ P9 zn111.2.2.2.2.2.1 [zn110] 3000 3) zn111 (.inl 62, .inl 0, .inl 0) zl111 3000 = true := by decide +kernel
theorem zt111 : Con P9 13 zn111 := con_of J9_ok (d := 9) (n := 3) (cs_cons (Con_le (by decide) (zt110)) (cs_nil)) zk111
/-- TwoMouths$WayFinder.goOn 6 -/
def zn112 : aN := (92, [.inl [168], .inr (.inl (.inl 6)), .inr (.inl (.inr (0, 1, 0))), .inr (.inl (.inr (0, 1, 1))), .inr (.inl (.inr (0, 1, 2)))], [(114, 1, .inl [17])], [((-2147483648), 2147483647), (0, 1023), ((-2147483648), 2147483647)], [], [(169, 1000)], [(some (.inr (.inl (.inl 0))), [], [((-2147483648), 2147483647), (0, 1023), ((-2147483648), 2147483647)], []), (some (.inr (.inl (.inl 1))), [], [((-1), 9), (0, 1023), ((-2147483648), 98)], [])])
def zl112 : List aL := [((11, [(0, .inl [168]), (1, .inr (.inl (.inl 6))), (2, .inr (.inl (.inr (0, 1, 0)))), (3, .inr (.inl (.inr (0, 1, 1)))), (4, .inr (.inl (.inr (0, 1, 2)))), (5, .inr (.inl (.inr (0, 1, 3))))], [], [(114, 1, .inl [17])], [((-2147483648), 2147483647), (0, 1023), ((-2147483648), 2147483647), (0, 30)], []), (.inr (61, (-2), 3), .inl 0, .inl 0))]
theorem zk112 : chkM P9 (mkQ P9 zn112.2.2.2.2.2.1 [zn111] 3000 3) zn112 (.inl 62, .inl 0, .inl 0) zl112 3000 = true := by decide +kernel
theorem zt112 : Con P9 17 zn112 := con_of J9_ok (d := 13) (n := 3) (cs_cons (Con_le (by decide) (zt111)) (cs_nil)) zk112
/-- TwoMouths$WayFinder.goOn 5 -/
def zn113 : aN := (92, [.inl [168], .inr (.inl (.inl 5)), .inr (.inl (.inr (0, 1, 0))), .inr (.inl (.inr (0, 1, 1))), .inr (.inl (.inr (0, 1, 2)))], [(114, 1, .inl [17])], [((-2147483648), 2147483647), (0, 1023), ((-2147483648), 2147483647)], [], [(169, 1000)], [(some (.inr (.inl (.inl 0))), [], [((-2147483648), 2147483647), (0, 1023), ((-2147483648), 2147483647)], []), (some (.inr (.inl (.inl 1))), [], [((-1), 9), (0, 1023), ((-2147483648), 98)], [])])
def zl113 : List aL := [((11, [(0, .inl [168]), (1, .inr (.inl (.inl 5))), (2, .inr (.inl (.inr (0, 1, 0)))), (3, .inr (.inl (.inr (0, 1, 1)))), (4, .inr (.inl (.inr (0, 1, 2)))), (5, .inr (.inl (.inr (0, 1, 3))))], [], [(114, 1, .inl [17])], [((-2147483648), 2147483647), (0, 1023), ((-2147483648), 2147483647), (0, 30)], []), (.inr (61, (-2), 3), .inl 0, .inl 0))]
theorem zk113 : chkM P9 (mkQ P9 zn113.2.2.2.2.2.1 [zn112] 3000 3) zn113 (.inl 62, .inl 0, .inl 0) zl113 3000 = true := by decide +kernel
theorem zt113 : Con P9 21 zn113 := con_of J9_ok (d := 17) (n := 3) (cs_cons (Con_le (by decide) (zt112)) (cs_nil)) zk113
/-- TwoMouths$WayFinder.goOn 4 -/
def zn114 : aN := (92, [.inl [168], .inr (.inl (.inl 4)), .inr (.inl (.inr (0, 1, 0))), .inr (.inl (.inr (0, 1, 1))), .inr (.inl (.inr (0, 1, 2)))], [(114, 1, .inl [17])], [((-2147483648), 2147483647), (0, 1023), ((-2147483648), 2147483647)], [], [(169, 1000)], [(some (.inr (.inl (.inl 0))), [], [((-2147483648), 2147483647), (0, 1023), ((-2147483648), 2147483647)], []), (some (.inr (.inl (.inl 1))), [], [((-1), 9), (0, 1023), ((-2147483648), 98)], [])])
def zl114 : List aL := [((11, [(0, .inl [168]), (1, .inr (.inl (.inl 4))), (2, .inr (.inl (.inr (0, 1, 0)))), (3, .inr (.inl (.inr (0, 1, 1)))), (4, .inr (.inl (.inr (0, 1, 2)))), (5, .inr (.inl (.inr (0, 1, 3))))], [], [(114, 1, .inl [17])], [((-2147483648), 2147483647), (0, 1023), ((-2147483648), 2147483647), (0, 30)], []), (.inr (61, (-2), 3), .inl 0, .inl 0))]
theorem zk114 : chkM P9 (mkQ P9 zn114.2.2.2.2.2.1 [zn113] 3000 3) zn114 (.inl 62, .inl 0, .inl 0) zl114 3000 = true := by decide +kernel
theorem zt114 : Con P9 25 zn114 := con_of J9_ok (d := 21) (n := 3) (cs_cons (Con_le (by decide) (zt113)) (cs_nil)) zk114
