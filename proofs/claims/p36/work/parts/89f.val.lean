/-! GHOSTS, 6: a value (printed by wip/hand/gen89f.py) -/
abbrev vlQ : aQ := mkQ P39 kSg [zn156, zn157, zn158, zn163] 3000 2
theorem vlQ_ok : Qok P9 kSg 12 vlQ := mkQ_ok J9_ok (d := 10) (cs_cons (Con_le (by decide) zt156) (cs_cons (Con_le (by decide) zt157) (cs_cons (Con_le (by decide) zt158) (cs_cons (Con_le (by decide) zt163) (cs_nil))))) 3000 2
abbrev vl0 : ghL := ((0, [(0, .inl [170])], [], [], [], []), 0, 9, 0)
abbrev vlA : ghL := ((33, [(0, .inl [170]), (1, .inr (.inl (.inr (0, 1, 0))))], [.inr (.inl (.inr (0, 1, 0))), .inl [170]], [], [((-2147483648), 2147483647)], []), 0, 8, 0)
abbrev vlA1 : ghL := ((36, [(0, .inl [170])], [.inr (.inl (.inl 1))], [], [], []), 1, 7, 0)
abbrev vlA0 : ghL := ((36, [(0, .inl [170])], [.inr (.inl (.inl 0))], [], [], []), 99, 7, 0)
abbrev vlB : ghL := ((70, [(0, .inl [170]), (1, .inr (.inl (.inr (0, 1, 0)))), (2, .inr (.inl (.inr (0, 1, 1))))], [.inr (.inl (.inr (0, 1, 0))), .inl [170]], [], [((-2147483648), 2147483647), (0, 8)], []), 0, 8, 0)
abbrev vlB1 : ghL := ((73, [(0, .inl [170]), (2, .inr (.inl (.inr (0, 1, 0))))], [.inr (.inl (.inl 1))], [], [(0, 8)], []), 1, 7, 0)
abbrev vlB0 : ghL := ((73, [(0, .inl [170])], [.inr (.inl (.inl 0))], [], [], []), 99, 7, 0)
abbrev vlC : ghL := ((47, [(0, .inl [170])], [.inr (.inl (.inr (0, 1, 0))), .inr (.inl (.inl 0)), .inl [170]], [], [((-2147483648), 2147483647)], []), 1, 6, 0)
abbrev vlC1 : ghL := ((50, [(0, .inl [170])], [], [], [], []), 2, 5, 0)
abbrev vlD : ghL := ((85, [(0, .inl [170])], [.inr (.inl (.inr (0, 1, 0))), .inr (.inl (.inl 1)), .inl [170]], [], [(0, 8)], []), 1, 6, 0)
abbrev vlD1 : ghL := ((88, [(0, .inl [170])], [], [], [], []), 2, 5, 0)
abbrev vlL : List ghL := [vl0, vlA, vlA1, vlA0, vlB, vlB1, vlB0, vlC, vlC1, vlD, vlD1]
abbrev vlO : List ghO := [(some 0, 0), (some 0, 99), (some 1, 2)]
set_option maxRecDepth 1000000 in
theorem vl0_k : chkL P39 kSg vlQ eM252 0 (ghSel vl0.2.1 vlL) (ghOut vl0.2.1 vlO) 3000 (ghA vl0) = true := by decide +kernel
set_option maxRecDepth 1000000 in
theorem vlA_k : chkC eM252 vlL 215 [(some 1, 1, 0), (some 0, 99, 0)] vlA = true := by decide +kernel
set_option maxRecDepth 1000000 in
theorem vlA1_k : chkL P39 kSg vlQ eM252 0 (ghSel vlA1.2.1 vlL) (ghOut vlA1.2.1 vlO) 3000 (ghA vlA1) = true := by decide +kernel
set_option maxRecDepth 1000000 in
theorem vlA0_k : chkL P39 kSg vlQ eM252 0 (ghSel vlA0.2.1 vlL) (ghOut vlA0.2.1 vlO) 3000 (ghA vlA0) = true := by decide +kernel
set_option maxRecDepth 1000000 in
theorem vlB_k : chkC eM252 vlL 215 [(some 1, 1, 0), (some 0, 99, 0)] vlB = true := by decide +kernel
set_option maxRecDepth 1000000 in
theorem vlB1_k : chkL P39 kSg vlQ eM252 0 (ghSel vlB1.2.1 vlL) (ghOut vlB1.2.1 vlO) 3000 (ghA vlB1) = true := by decide +kernel
set_option maxRecDepth 1000000 in
theorem vlB0_k : chkL P39 kSg vlQ eM252 0 (ghSel vlB0.2.1 vlL) (ghOut vlB0.2.1 vlO) 3000 (ghA vlB0) = true := by decide +kernel
set_option maxRecDepth 1000000 in
theorem vlC_k : chkC eM252 vlL 226 [(none, 2, 0)] vlC = true := by decide +kernel
set_option maxRecDepth 1000000 in
theorem vlC1_k : chkL P39 kSg vlQ eM252 0 (ghSel vlC1.2.1 vlL) (ghOut vlC1.2.1 vlO) 3000 (ghA vlC1) = true := by decide +kernel
set_option maxRecDepth 1000000 in
theorem vlD_k : chkC eM252 vlL 226 [(none, 2, 0)] vlD = true := by decide +kernel
set_option maxRecDepth 1000000 in
theorem vlD1_k : chkL P39 kSg vlQ eM252 0 (ghSel vlD1.2.1 vlL) (ghOut vlD1.2.1 vlO) 3000 (ghA vlD1) = true := by decide +kernel
theorem vl_ok : VC 13 252 := by
  intro t b m e κ s ht hκ h hG hJ hk
  obtain ⟨r, h2, t1, t2, t3, t4, o, o1, o2, o3⟩ := G_of (JF := vJ t b m e κ s) (mu := fun _ => 0) (WA := kWa) (d := 12) (mi := 252) (N := eM252) rfl (outs := vlO) (Ls := vlL.tail) (i := 0) (p := 9) (r := 0) rfl (gh_cons (G_seg (fun h h2 => vJ_fr h h2 _) (fun _ _ _ _ => rfl) rfl vlQ_ok vl0_k) (gh_cons (G_call (N := eM215) rfl vlA_k (fun h ρ vs hG hJ hK hB hF hA => by
    obtain ⟨a, e1, e2⟩ := arg2 hA
    subst e1
    obtain ⟨r, h2, t1, t2, t3, t4, t5⟩ := mk_ok hG hJ hK a
    refine ⟨r, h2, Trm_le (by decide) t1, t2, t3, t4, ?_⟩
    rcases t5 with t5 | ⟨t5, t6⟩
    · exact ⟨(some 0, 99, 0), List.mem_of_getElem? (i := 1) rfl, t5, trivial, (fun z => by cases z), (fun z => by cases z)⟩
    · exact ⟨(some 1, 1, 0), List.mem_of_getElem? (i := 0) rfl, t5, t6, (fun z => by cases z), (fun z => by cases z)⟩)) (gh_cons (G_seg (fun h h2 => vJ_fr h h2 _) (fun _ _ _ _ => rfl) rfl vlQ_ok vlA1_k) (gh_cons (G_seg (fun h h2 => vJ_fr h h2 _) (fun _ _ _ _ => rfl) rfl vlQ_ok vlA0_k) (gh_cons (G_call (N := eM215) rfl vlB_k (fun h ρ vs hG hJ hK hB hF hA => by
    obtain ⟨a, e1, e2⟩ := arg2 hA
    subst e1
    obtain ⟨r, h2, t1, t2, t3, t4, t5⟩ := mk_ok hG hJ hK a
    refine ⟨r, h2, Trm_le (by decide) t1, t2, t3, t4, ?_⟩
    rcases t5 with t5 | ⟨t5, t6⟩
    · exact ⟨(some 0, 99, 0), List.mem_of_getElem? (i := 1) rfl, t5, trivial, (fun z => by cases z), (fun z => by cases z)⟩
    · exact ⟨(some 1, 1, 0), List.mem_of_getElem? (i := 0) rfl, t5, t6, (fun z => by cases z), (fun z => by cases z)⟩)) (gh_cons (G_seg (fun h h2 => vJ_fr h h2 _) (fun _ _ _ _ => rfl) rfl vlQ_ok vlB1_k) (gh_cons (G_seg (fun h h2 => vJ_fr h h2 _) (fun _ _ _ _ => rfl) rfl vlQ_ok vlB0_k) (gh_cons (G_call (N := eM226) rfl vlC_k (fun h ρ vs hG hJ hK hB hF hA => by
    obtain ⟨a, v, e1, e2, e3⟩ := arg3 hA
    subst e1
    have hK : KS t b (m + 1) e (κ - 5) (s + 1) h := hK
    obtain ⟨h2, t1, t2, t3, t4, t5, t6⟩ := pt_S (e2 := e + 1) (s2 := s) hG hJ hK ht (by omega) (by omega) (a := a) (v := v) (sO_num e2)
    rw [show κ - 5 + 1 = κ - 4 by omega] at t5
    exact ⟨none, h2, Trm_le (by decide) t1, t2, t3, t4, (none, 2, 0), List.mem_singleton.mpr rfl, trivial, t5, (fun z => by cases z), (fun z => by cases z)⟩)) (gh_cons (G_seg (fun h h2 => vJ_fr h h2 _) (fun _ _ _ _ => rfl) rfl vlQ_ok vlC1_k) (gh_cons (G_call (N := eM226) rfl vlD_k (fun h ρ vs hG hJ hK hB hF hA => by
    obtain ⟨a, v, e1, e2, e3⟩ := arg3 hA
    subst e1
    have hK : KS t b (m + 1) e (κ - 5) (s + 1) h := hK
    obtain ⟨h2, t1, t2, t3, t4, t5, t6⟩ := pt_S (e2 := e + 1) (s2 := s) hG hJ hK ht (by omega) (by omega) (a := a) (v := v) (by
      have b2 := xb_ok hB e3
      have b1 : 0 + 1 * 0 ≤ v.toInt := b2.1
      have b3 : v.toInt ≤ 0 + 1 * 8 := b2.2
      exact sO_wrd e2 (by omega) (by omega))
    rw [show κ - 5 + 1 = κ - 4 by omega] at t5
    exact ⟨none, h2, Trm_le (by decide) t1, t2, t3, t4, (none, 2, 0), List.mem_singleton.mpr rfl, trivial, t5, (fun z => by cases z), (fun z => by cases z)⟩)) (gh_cons (G_seg (fun h h2 => vJ_fr h h2 _) (fun _ _ _ _ => rfl) rfl vlQ_ok vlD1_k) (gh_nil)))))))))))) hG hJ hk
  refine ⟨r, h2, t1, t2, t3, t4, ?_⟩
  rcases List.mem_cons.mp o1 with e1 | o1
  · subst e1
    exact Or.inl o2
  · rcases List.mem_cons.mp o1 with e1 | o1
    · subst e1
      exact Or.inl o2
    · have e1 := List.mem_singleton.mp o1
      subst e1
      exact Or.inr ⟨o2, o3⟩
