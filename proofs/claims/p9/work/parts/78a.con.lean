set_option maxRecDepth 100000
/-- TwoMouthsModel.bits -/
def zn0 : aN := (158, [.inr (.inl (.inr (0, 1, 0)))], [], [(0, 1023)], [], [], [(some (.inr (.inl (.inr (0, 1, 1)))), [], [(0, 1023), ((-2147483648), 2147483647)], [])])
def zl0 : List aL := [((4, [(0, .inr (.inl (.inr (0, 1, 0)))), (1, .inr (.inl (.inr (0, 1, 1)))), (2, .inr (.inl (.inr (0, 1, 2))))], [], [], [(0, 1023), ((-2147483648), 2147483647), (0, 1023)], []), (.inr (1, 2, 2), .inl 0, .inl 0))]
theorem zk0 : chkM P9 (mkQ P9 zn0.2.2.2.2.2.1 [] 3000 0) zn0 (.inl 2048, .inl 0, .inl 0) zl0 3000 = true := by decide +kernel
theorem zt0 : Con P9 1 zn0 := con_of J9_ok (d := 0) (n := 0) (cs_nil) zk0
