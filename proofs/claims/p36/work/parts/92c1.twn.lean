/-! A TOWN'S TALKS, 3b: town, its copies -/
abbrev kU0 : aW := [(183, 1000)]
abbrev u6F : List (Nat × Nat × aV) := [(170, 7, .inr (.inl (.inr (0, 1, 0))))]
abbrev u6R : List aR := [.inr (.inr (.inl (183, 0, .inr (0, 1, 0))))]
abbrev u6L : List (Nat × aV) := [(0, .inl [170]), (1, .inr (.inl (.inr (0, 1, 1))))]
abbrev u57 : aL := ((57, [(0, .inl [170])], [], u6F, [(0, 30)], []), (.inl 304, .inl 0, .inl 0))
abbrev u89 : aL := ((89, u6L, [], u6F, [(0, 30), (0, 10)], u6R), (.inr (281, (-2), 1), .inl 0, .inl 0))
abbrev u118 : aL := ((118, u6L, [], u6F, [(0, 30), (0, 99)], u6R), (.inr (259, (-2), 1), .inl 0, .inl 0))
abbrev u151 : aL := ((151, u6L, [], u6F, [(0, 30), (0, 29)], u6R), (.inr (59, (-2), 1), .inl 0, .inl 0))
abbrev u184 : aL := ((184, [(0, .inl [170]), (1, .inr (.inl (.inl 0)))], [], u6F, [(0, 30)], u6R), (.inl 0, .inl 0, .inl 0))
abbrev u6Q : aQ := mkQ P39 kU0 [] 3000 0
theorem u6Q_ok : Qok P9 kU0 29 u6Q := Qok_le (by decide) (mkQ_ok J9_ok (d := 0) cs_nil 3000 0)
set_option maxRecDepth 1000000 in
theorem u57_k : chkL P39 kU0 u6Q eM248 1 ([u57, u89, u118, u151] ++ [u184]) [] 3000 u57 = true := by decide +kernel
set_option maxRecDepth 1000000 in
theorem u89_k : chkL P39 kU0 u6Q eM248 1 ([u57, u89, u118, u151] ++ [u184]) [] 3000 u89 = true := by decide +kernel
set_option maxRecDepth 1000000 in
theorem u118_k : chkL P39 kU0 u6Q eM248 1 ([u57, u89, u118, u151] ++ [u184]) [] 3000 u118 = true := by decide +kernel
set_option maxRecDepth 1000000 in
theorem u151_k : chkL P39 kU0 u6Q eM248 1 ([u57, u89, u118, u151] ++ [u184]) [] 3000 u151 = true := by decide +kernel
