set_option maxRecDepth 1000000
/-- TwoMouths$TownReader.readClause -/
def zn23 : aN := (85, [.inl [3], .inr (.inl (.inr (0, 1, 0)))], [], [(0, 32)], [], [(1, 2), (1, 3), (1, 4), (1, 5), (4, 4), (4, 5), (5, 1000), (6, 1000), (7, 1000), (8, 3), (9, 1000), (10, 1000), (11, 1000)], [(some (.inr (.inl (.inl 0))), [], [(0, 32)], []), (some (.inr (.inl (.inl 1))), [], [(0, 31)], [])])
def zl23 : List aL := []
theorem zk23 : chkM P39 (mkQ P39 zn23.2.2.2.2.2.1 [zn1, zn16, zn17, zn18, zn19, zn20, zn22] 3000 4) zn23 (.inl 0, .inl 0, .inl 0) zl23 3000 = true := by decide +kernel
