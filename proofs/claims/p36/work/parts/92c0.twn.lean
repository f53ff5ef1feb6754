/-! A TOWN'S TALKS, 3: town -/
abbrev kT0 : aW := [(170, 7), (170, 8), (170, 9), (170, 17), (176, 1000)]
abbrev t6A : aL := ((0, [(0, .inl [170])], [], [], [], []), (.inl 304, .inl 0, .inl 0))
abbrev t6B : aL := ((23, [(0, .inl [170]), (1, .inr (.inl (.inr (0, 1, 0))))], [], [(170, 17, .inr (.inl (.inl 6))), (170, 7, .inr (.inl (.inl 0)))], [(0, 10)], []), (.inr (303, (-2), 0), .inl 0, .inl 0))
abbrev t6T : aL := ((43, [(0, .inl [170])], [.inl [170]], [(170, 17, .inr (.inl (.inl 6))), (170, 7, .inr (.inl (.inl 0)))], [], []), (.inl 0, .inl 0, .inl 0))
abbrev t6Q : aQ := mkQ P39 kT0 [] 3000 0
theorem t6Q_ok : Qok P9 kT0 29 t6Q := Qok_le (by decide) (mkQ_ok J9_ok (d := 0) cs_nil 3000 0)
set_option maxRecDepth 1000000 in
theorem t6A_k : chkL P39 kT0 t6Q eM248 0 ([t6A, t6B] ++ [t6T]) [] 3000 t6A = true := by decide +kernel
set_option maxRecDepth 1000000 in
theorem t6B_k : chkL P39 kT0 t6Q eM248 0 ([t6A, t6B] ++ [t6T]) [] 3000 t6B = true := by decide +kernel
