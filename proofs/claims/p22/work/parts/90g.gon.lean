/-! THE WAY, 7: goesOn -/
/-- labels inside, then one of the targets -/
theorem Obl_un {P : aP} {W : aW} {d : Nat} {M : eM} {n0 : Nat} {Ls Ts : List aL} (hO : ∀ l ∈ Ls, Obl P W d M n0 [] (Ls ++ Ts) l) {ρ0 : List Int} (hn0 : ρ0.length = n0) {h0 : List cC} (m : Nat × Nat × Nat) : ∀ l : aL, l ∈ Ls → ∀ (ρ : List Int) (S : cS), mv ρ l.2 = m → S.1 = l.1.1 → HG P.1 [] S.2.2.2 → okB ρ l.1.2.2.2.2.1 → okR ρ0 ρ S.2.2.2 l.1.2.2.2.2.2 → okL ρ l.1.2.1 S.2.1 → okS ρ l.1.2.2.1 S.2.2.1 → okF ρ l.1.2.2.2.1 S.2.2.2 → Kp P W h0 S.2.2.2 → ∃ S2 : cS, Go (calF (Trm d)) M none S S2 ∧ Kp P W h0 S2.2.2.2 ∧ ∃ l2 ∈ Ts, ∃ ρ2 : List Int, S2.1 = l2.1.1 ∧ HG P.1 [] S2.2.2.2 ∧ okB ρ2 l2.1.2.2.2.2.1 ∧ okR ρ0 ρ2 S2.2.2.2 l2.1.2.2.2.2.2 ∧ okL ρ2 l2.1.2.1 S2.2.1 ∧ okS ρ2 l2.1.2.2.1 S2.2.2.1 ∧ okF ρ2 l2.1.2.2.2.1 S2.2.2.2 := by
  induction m using lt3_wf.induction with
  | _ m ih =>
    intro l hl ρ S hm e1 hG hB hR hL hSt hF hK
    obtain ⟨S2, g1, g2, g3⟩ := hO l hl ρ0 hn0 h0 ρ S e1 hG hB hR hL hSt hF hK
    rcases g3 with ⟨l2, q1, ρ2, q2, q3, q4, q5, q6, q7, q8, q9⟩ | ⟨r, _, _, o, o1, _⟩
    · rcases List.mem_append.mp q1 with q1 | q1
      · obtain ⟨S3, z1, z2⟩ := ih _ (by rw [← hm]; exact q9) l2 q1 ρ2 S2 rfl q2 q3 q4 q5 q6 q7 q8 g2
        exact ⟨S3, g1.trans z1, z2⟩
      · exact ⟨S2, g1, g2, l2, q1, ρ2, q2, q3, q4, q5, q6, q7, q8⟩
    · cases o1
abbrev goB : List eP := [(0, 5), (0, 1023), (0, 1023)]
abbrev goLs : List (Nat × aV) := [(0, .inl [170]), (1, .inr (.inl (.inr (0, 1, 0)))), (2, .inr (.inl (.inr (0, 1, 1)))), (3, .inr (.inl (.inr (0, 1, 2))))]
abbrev goF : List (Nat × Nat × aV) := [(170, 32, .inr (.inl (.inr (0, 1, 1))))]
abbrev go0 : aL := ((0, goLs, [], [], goB, []), (.inl 20000, .inl 0, .inl 0))
abbrev go13 : aL := ((13, goLs ++ [(4, .inr (.inl (.inr (0, 1, 3))))], [], goF, goB ++ [(0, 10240)], [.inr (.inr (.inr (188, 0, .inr (0, 1, 3))))]), (.inr (10241, (-1), 3), .inl 0, .inl 0))
abbrev go35 : aL := ((35, goLs, [], goF, goB, [.inr (.inr (.inr (188, 0, .inl 10240)))]), (.inl 0, .inl 0, .inl 0))
abbrev goWa : aW := [(170, 32), (170, 33), (188, 1000)]
set_option maxRecDepth 1000000 in
theorem go0_k : chkL P39 goWa (mkQ P39 goWa [] 3000 0) eM185 3 ([go0, go13] ++ [go35]) [] 3000 go0 = true := by decide +kernel
set_option maxRecDepth 1000000 in
theorem go13_k : chkL P39 goWa (mkQ P39 goWa [] 3000 0) eM185 3 ([go0, go13] ++ [go35]) [] 3000 go13 = true := by decide +kernel
abbrev gp35 : aL := ((35, goLs, [], [], goB, []), (.inl 300, .inl 0, .inl 0))
abbrev gp38 : aL := ((38, goLs ++ [(4, .inr (.inl (.inr (0, 1, 3))))], [], [], goB ++ [(0, 10)], []), (.inr (285, (-2), 3), .inl 0, .inl 0))
abbrev gp136 : aL := ((136, goLs ++ [(4, .inr (.inl (.inr (0, 1, 3))))], [], [], goB ++ [(0, 31)], []), (.inr (263, (-2), 3), .inl 0, .inl 0))
abbrev gp162 : aL := ((162, [(0, .inl [170]), (1, .inr (.inl (.inr (0, 1, 0)))), (4, .inr (.inl (.inl 1)))], [], [], goB, []), (.inl 0, .inl 0, .inl 0))
abbrev goWb : aW := [(189, 1000), (190, 1000), (191, 1000), (192, 1000), (193, 1000), (194, 1000), (195, 1000), (196, 1000)]
set_option maxRecDepth 1000000 in
theorem gp35_k : chkL P39 goWb (mkQ P39 goWb [] 3000 1) eM185 3 ([gp35, gp38, gp136] ++ [gp162]) [] 3000 gp35 = true := by decide +kernel
set_option maxRecDepth 1000000 in
theorem gp38_k : chkL P39 goWb (mkQ P39 goWb [] 3000 1) eM185 3 ([gp35, gp38, gp136] ++ [gp162]) [] 3000 gp38 = true := by decide +kernel
set_option maxRecDepth 1000000 in
theorem gp136_k : chkL P39 goWb (mkQ P39 goWb [] 3000 1) eM185 3 ([gp35, gp38, gp136] ++ [gp162]) [] 3000 gp136 = true := by decide +kernel
abbrev gq218 : aL := ((218, [(0, .inl [170]), (1, .inr (.inl (.inr (0, 1, 0)))), (4, .inr (.inl (.inr (0, 1, 1))))], [], [], [(0, 5), (1, 99)], []), (.inl 30, .inl 0, .inl 0))
abbrev gq221 : aL := ((221, [(0, .inl [170]), (1, .inr (.inl (.inr (0, 1, 0)))), (4, .inr (.inl (.inr (0, 1, 1)))), (5, .inr (.inl (.inr (0, 1, 2))))], [], [], [(0, 5), (1, 99), (0, 10)], []), (.inr (21, (-2), 2), .inl 0, .inl 0))
abbrev gq162 : aL := ((162, [(0, .inl [170]), (1, .inr (.inl (.inr (0, 1, 0)))), (4, .inr (.inl (.inr (1, 1, 1))))], [], [], [(0, 5), (1, 99)], []), (.inl 0, .inl 0, .inl 0))
abbrev goWd : aW := [(192, 1000), (193, 1000), (195, 1000), (197, 1000)]
set_option maxRecDepth 1000000 in
theorem gq218_k : chkL P39 goWd (mkQ P39 goWd [zn177] 3000 0) eM185 2 ([gq218, gq221] ++ [gq162]) [] 3000 gq218 = true := by decide +kernel
set_option maxRecDepth 1000000 in
theorem gq221_k : chkL P39 goWd (mkQ P39 goWd [zn177] 3000 0) eM185 2 ([gq218, gq221] ++ [gq162]) [] 3000 gq221 = true := by decide +kernel
