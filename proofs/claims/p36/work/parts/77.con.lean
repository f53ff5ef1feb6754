/-! CONTRACTS (printed by wip/chk): what they look at -/
def PT9 : List (Nat × sG) := [(183, 6, 1, 1, (0, 0)), (203, 6, 230, 4, (0, 0))]
def IR9 : List Nat := [81, 86, 91, 96, 101, 106, 172, 174, 175]
def P39 : aP3 := (TT, PT9, IR9)
