set_option maxRecDepth 1000000
/-- TwoMouths$LawReader.read 1 -/
def zn58 : aN := (11, [.inl [110], .inl [85]], [], [], [], [(1, 2), (1, 3), (1, 4), (1, 5), (80, 1), (80, 5), (81, 1000), (85, 1), (85, 4), (85, 5), (86, 1000), (87, 1000), (88, 1000), (90, 1), (90, 5), (91, 1000), (95, 1), (95, 5), (96, 1000), (100, 1), (100, 5), (101, 1000), (105, 1), (105, 5), (106, 1000), (110, 1), (110, 2)], [(some (.inr (.inl (.inr (0, 1, 0)))), [], [((-2147483648), 2147483647)], [])])
def zl58 : List aL := [((26, [(0, .inl [110]), (1, .inl [85]), (2, .inr (.inl (.inr (0, 1, 0))))], [], [(110, 1, .inl [85])], [(0, 19)], []), (.inr (39, (-2), 0), .inl 0, .inl 0))]
theorem zk58 : chkM P9 (mkQ P9 zn58.2.2.2.2.2.1 [zn0, zn1, zn2, zn3, zn56] 3000 2) zn58 (.inl 40, .inl 0, .inl 0) zl58 3000 = true := by decide +kernel
theorem zt58 (a28 : Con P9 1 zn28) (a29 : Con P9 1 zn29) (a30 : Con P9 1 zn30) : Con P9 57 zn58 := con_of J9_ok (d := 54) (n := 2) (cs_cons (Con_le (by decide) (zt0)) (cs_cons (Con_le (by decide) (zt1)) (cs_cons (Con_le (by decide) (zt2)) (cs_cons (Con_le (by decide) (zt3)) (cs_cons (Con_le (by decide) (zt56 a28 a29 a30)) (cs_nil)))))) zk58
