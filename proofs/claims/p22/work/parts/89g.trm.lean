/-! GHOSTS, 7: terms and sums (printed by wip/hand/gen89g.py) -/
def tJ (t b m e : Nat) (κ : Int) (s : Nat) : Nat → List cC → Prop
  | 0 => KS t b m e κ s
  | 1 => KS t b (m + 1) (e + 1) (κ - 4) s
  | 2 => KS t b (m + 2) (e + 2) (κ - 8) s
  | _ => fun _ => True
theorem tJ_fr {t b m e : Nat} {κ : Int} {s : Nat} (h h2 : List cC) (i : Nat) (hG : HG TT [] h) (hf : Fr PT9 kSg h h2) (hk : tJ t b m e κ s i h) : tJ t b m e κ s i h2 := match i, hk with
  | 0, hk => KS_kS hf hk
  | 1, hk => KS_kS hf hk
  | 2, hk => KS_kS hf hk
  | _ + 3, _ => trivial
abbrev teQ : aQ := mkQ P39 kSg [zn156] 3000 2
theorem teQ_ok : Qok P9 kSg 14 teQ := mkQ_ok J9_ok (d := 12) (cs_cons (Con_le (by decide) zt156) (cs_nil)) 3000 2
abbrev te0 : ghL := ((0, [(0, .inl [170])], [], [], [], []), 0, 9, 0)
abbrev teA : ghL := ((1, [(0, .inl [170])], [.inl [170]], [], [], []), 0, 8, 0)
abbrev teA1 : ghL := ((4, [(0, .inl [170])], [.inr (.inl (.inl 1))], [], [], []), 1, 7, 0)
abbrev teA0 : ghL := ((4, [(0, .inl [170])], [.inr (.inl (.inl 0))], [], [], []), 99, 7, 0)
abbrev teB : ghL := ((9, [(0, .inl [170])], [], [], [], []), 1, 3, 30)
abbrev teC : ghL := ((58, [(0, .inl [170]), (1, .inr (.inl (.inr (0, 1, 0))))], [.inl [170]], [], [(4, 5)], []), 1, 3, 20)
abbrev teC1 : ghL := ((61, [(0, .inl [170]), (1, .inr (.inl (.inr (0, 1, 0))))], [.inr (.inl (.inl 1))], [], [(4, 5)], []), 2, 3, 60)
abbrev teC0 : ghL := ((61, [(0, .inl [170])], [.inr (.inl (.inl 0))], [], [], []), 99, 2, 0)
abbrev teD : ghL := ((69, [(0, .inl [170])], [.inr (.inl (.inl 0)), .inr (.inl (.inr (0, 1, 0))), .inl [170]], [], [(4, 5)], []), 2, 3, 50)
abbrev teE : ghL := ((72, [(0, .inl [170])], [], [], [], []), 1, 3, 40)
abbrev teL : List ghL := [te0, teA, teA1, teA0, teB, teC, teC1, teC0, teD, teE]
abbrev teO : List ghO := [(some 0, 99), (some 1, 1)]
set_option maxRecDepth 1000000 in
theorem te0_k : chkL P39 kSg teQ eM246 0 (ghSel te0.2.1 teL) (ghOut te0.2.1 teO) 3000 (ghA te0) = true := by decide +kernel
set_option maxRecDepth 1000000 in
theorem teA_k : chkC eM246 teL 252 [(some 1, 1, 0), (some 0, 99, 0)] teA = true := by decide +kernel
set_option maxRecDepth 1000000 in
theorem teA1_k : chkL P39 kSg teQ eM246 0 (ghSel teA1.2.1 teL) (ghOut teA1.2.1 teO) 3000 (ghA teA1) = true := by decide +kernel
set_option maxRecDepth 1000000 in
theorem teA0_k : chkL P39 kSg teQ eM246 0 (ghSel teA0.2.1 teL) (ghOut teA0.2.1 teO) 3000 (ghA teA0) = true := by decide +kernel
set_option maxRecDepth 1000000 in
theorem teB_k : chkL P39 kSg teQ eM246 0 (ghSel teB.2.1 teL) (ghOut teB.2.1 teO) 3000 (ghA teB) = true := by decide +kernel
set_option maxRecDepth 1000000 in
theorem teC_k : chkC eM246 teL 252 [(some 1, 2, 2), (some 0, 99, 0)] teC = true := by decide +kernel
set_option maxRecDepth 1000000 in
theorem teC1_k : chkL P39 kSg teQ eM246 0 (ghSel teC1.2.1 teL) (ghOut teC1.2.1 teO) 3000 (ghA teC1) = true := by decide +kernel
set_option maxRecDepth 1000000 in
theorem teC0_k : chkL P39 kSg teQ eM246 0 (ghSel teC0.2.1 teL) (ghOut teC0.2.1 teO) 3000 (ghA teC0) = true := by decide +kernel
set_option maxRecDepth 1000000 in
theorem teD_k : chkC eM246 teL 226 [(none, 1, 1)] teD = true := by decide +kernel
set_option maxRecDepth 1000000 in
theorem teE_k : chkL P39 kSg teQ eM246 0 (ghSel teE.2.1 teL) (ghOut teE.2.1 teO) 3000 (ghA teE) = true := by decide +kernel
theorem te_ok (hc : VC 13 252) : VC 15 246 := by
  intro t b m e κ s ht hκ h hG hJ hk
  obtain ⟨r, h2, t1, t2, t3, t4, o, o1, o2, o3⟩ := G_of (JF := tJ t b m e κ s) (mu := fun h => 60 - fN h 18) (WA := kWa) (d := 14) (mi := 246) (N := eM246) rfl (outs := teO) (Ls := teL.tail) (i := 0) (p := 9) (r := 0) rfl (gh_cons (G_seg (fun h h2 => tJ_fr h h2 _) (fun h h2 hG hf => by show 60 - fN h2 18 = 60 - fN h 18; rw [fN_keep hG hf ⟨_, rfl⟩ rfl]) rfl teQ_ok te0_k) (gh_cons (G_call (N := eM252) rfl teA_k (fun h ρ vs hG hJ hK hB hF hA => by
    have e1 := arg1 hA
    subst e1
    obtain ⟨r, h2, t1, t2, t3, t4, t5⟩ := hc t b m e κ s ht hκ h hG hJ hK
    refine ⟨r, h2, Trm_le (by decide) t1, t2, t3, t4, ?_⟩
    rcases t5 with t5 | ⟨t5, t6⟩
    · exact ⟨(some 0, 99, 0), List.mem_of_getElem? (i := 1) rfl, t5, trivial, (fun z => by cases z), (fun z => by cases z)⟩
    · exact ⟨(some 1, 1, 0), List.mem_of_getElem? (i := 0) rfl, t5, t6, (fun z => by cases z), (fun z => by cases z)⟩)) (gh_cons (G_seg (fun h h2 => tJ_fr h h2 _) (fun h h2 hG hf => by show 60 - fN h2 18 = 60 - fN h 18; rw [fN_keep hG hf ⟨_, rfl⟩ rfl]) rfl teQ_ok teA1_k) (gh_cons (G_seg (fun h h2 => tJ_fr h h2 _) (fun h h2 hG hf => by show 60 - fN h2 18 = 60 - fN h 18; rw [fN_keep hG hf ⟨_, rfl⟩ rfl]) rfl teQ_ok teA0_k) (gh_cons (G_seg (fun h h2 => tJ_fr h h2 _) (fun h h2 hG hf => by show 60 - fN h2 18 = 60 - fN h 18; rw [fN_keep hG hf ⟨_, rfl⟩ rfl]) rfl teQ_ok teB_k) (gh_cons (G_call (N := eM252) rfl teC_k (fun h ρ vs hG hJ hK hB hF hA => by
    have e1 := arg1 hA
    subst e1
    have hK : KS t b (m + 1) (e + 1) (κ - 4) s h := hK
    obtain ⟨op, md, dp, L, o, k1, k2⟩ := hK
    obtain ⟨r, h2, t1, t2, t3, t4, t5⟩ := hc t b md (e + 1) (κ - 4) s ht (by omega) h hG hJ ⟨op, md, dp, L, o, Nat.le_refl _, k2⟩
    refine ⟨r, h2, Trm_le (by decide) t1, t2, t3, t4, ?_⟩
    rcases t5 with t5 | ⟨t5, op2, md2, dp2, L2, o2, t6, t7⟩
    · exact ⟨(some 0, 99, 0), List.mem_of_getElem? (i := 1) rfl, t5, trivial, (fun z => by cases z), (fun z => by cases z)⟩
    · refine ⟨(some 1, 2, 2), List.mem_of_getElem? (i := 0) rfl, t5, ⟨op2, md2, dp2, L2, o2, by omega, by rw [show κ - 8 = κ - 4 - 4 by omega]; exact t7⟩, (fun z => by cases z), fun _ => ?_⟩
      have z1 := fN_of k2.2.2.1
      have z2 := fN_of t7.2.2.1
      have z3 := t7.2.2.2.2.2
      obtain ⟨_, _, _, _, _, _, _, _, _, _, p2, _⟩ := z3
      show 60 - fN h2 18 < 60 - fN h 18
      omega)) (gh_cons (G_seg (fun h h2 => tJ_fr h h2 _) (fun h h2 hG hf => by show 60 - fN h2 18 = 60 - fN h 18; rw [fN_keep hG hf ⟨_, rfl⟩ rfl]) rfl teQ_ok teC1_k) (gh_cons (G_seg (fun h h2 => tJ_fr h h2 _) (fun h h2 hG hf => by show 60 - fN h2 18 = 60 - fN h 18; rw [fN_keep hG hf ⟨_, rfl⟩ rfl]) rfl teQ_ok teC0_k) (gh_cons (G_call (N := eM226) rfl teD_k (fun h ρ vs hG hJ hK hB hF hA => by
    obtain ⟨a, v, e1, e2, e3⟩ := arg3 hA
    subst e1
    have hK : KS t b (m + 2) (e + 2) (κ - 8) s h := hK
    have b2 := xb_ok hB e2
    have b1 : 0 + 1 * 4 ≤ a.toInt := b2.1
    have b3 : a.toInt ≤ 0 + 1 * 5 := b2.2
    obtain ⟨h2, t1, t2, t3, t4, t5, t6⟩ := pt_S (e2 := e + 1) (s2 := s) hG hJ hK ht (by omega) (by omega) (a := a) (v := v) (sO_bin (by omega) (by omega) e3)
    exact ⟨none, h2, Trm_le (by decide) t1, t2, t3, t4, (none, 1, 1), List.mem_singleton.mpr rfl, trivial, KS_le (by omega) (Nat.le_refl _) (by omega) t5, (fun _ => by show 60 - fN h2 18 ≤ 60 - fN h 18; omega), (fun z => by cases z)⟩)) (gh_cons (G_seg (fun h h2 => tJ_fr h h2 _) (fun h h2 hG hf => by show 60 - fN h2 18 = 60 - fN h 18; rw [fN_keep hG hf ⟨_, rfl⟩ rfl]) rfl teQ_ok teE_k) (gh_nil))))))))))) hG hJ hk
  refine ⟨r, h2, t1, t2, t3, t4, ?_⟩
  rcases List.mem_cons.mp o1 with e1 | o1
  · subst e1
    exact Or.inl o2
  · have e1 := List.mem_singleton.mp o1
    subst e1
    exact Or.inr ⟨o2, o3⟩
abbrev suQ : aQ := mkQ P39 kSg [zn156] 3000 2
theorem suQ_ok : Qok P9 kSg 16 suQ := mkQ_ok J9_ok (d := 14) (cs_cons (Con_le (by decide) zt156) (cs_nil)) 3000 2
abbrev su0 : ghL := ((0, [(0, .inl [170])], [], [], [], []), 0, 9, 0)
abbrev suA : ghL := ((1, [(0, .inl [170])], [.inl [170]], [], [], []), 0, 8, 0)
abbrev suA1 : ghL := ((4, [(0, .inl [170])], [.inr (.inl (.inl 1))], [], [], []), 1, 7, 0)
abbrev suA0 : ghL := ((4, [(0, .inl [170])], [.inr (.inl (.inl 0))], [], [], []), 99, 7, 0)
abbrev suB : ghL := ((9, [(0, .inl [170])], [], [], [], []), 1, 3, 30)
abbrev suC : ghL := ((58, [(0, .inl [170]), (1, .inr (.inl (.inr (0, 1, 0))))], [.inl [170]], [], [(2, 3)], []), 1, 3, 20)
abbrev suC1 : ghL := ((61, [(0, .inl [170]), (1, .inr (.inl (.inr (0, 1, 0))))], [.inr (.inl (.inl 1))], [], [(2, 3)], []), 2, 3, 60)
abbrev suC0 : ghL := ((61, [(0, .inl [170])], [.inr (.inl (.inl 0))], [], [], []), 99, 2, 0)
abbrev suD : ghL := ((69, [(0, .inl [170])], [.inr (.inl (.inl 0)), .inr (.inl (.inr (0, 1, 0))), .inl [170]], [], [(2, 3)], []), 2, 3, 50)
abbrev suE : ghL := ((72, [(0, .inl [170])], [], [], [], []), 1, 3, 40)
abbrev suL : List ghL := [su0, suA, suA1, suA0, suB, suC, suC1, suC0, suD, suE]
abbrev suO : List ghO := [(some 0, 99), (some 1, 1)]
set_option maxRecDepth 1000000 in
theorem su0_k : chkL P39 kSg suQ eM240 0 (ghSel su0.2.1 suL) (ghOut su0.2.1 suO) 3000 (ghA su0) = true := by decide +kernel
set_option maxRecDepth 1000000 in
theorem suA_k : chkC eM240 suL 246 [(some 1, 1, 0), (some 0, 99, 0)] suA = true := by decide +kernel
set_option maxRecDepth 1000000 in
theorem suA1_k : chkL P39 kSg suQ eM240 0 (ghSel suA1.2.1 suL) (ghOut suA1.2.1 suO) 3000 (ghA suA1) = true := by decide +kernel
set_option maxRecDepth 1000000 in
theorem suA0_k : chkL P39 kSg suQ eM240 0 (ghSel suA0.2.1 suL) (ghOut suA0.2.1 suO) 3000 (ghA suA0) = true := by decide +kernel
set_option maxRecDepth 1000000 in
theorem suB_k : chkL P39 kSg suQ eM240 0 (ghSel suB.2.1 suL) (ghOut suB.2.1 suO) 3000 (ghA suB) = true := by decide +kernel
set_option maxRecDepth 1000000 in
theorem suC_k : chkC eM240 suL 246 [(some 1, 2, 2), (some 0, 99, 0)] suC = true := by decide +kernel
set_option maxRecDepth 1000000 in
theorem suC1_k : chkL P39 kSg suQ eM240 0 (ghSel suC1.2.1 suL) (ghOut suC1.2.1 suO) 3000 (ghA suC1) = true := by decide +kernel
set_option maxRecDepth 1000000 in
theorem suC0_k : chkL P39 kSg suQ eM240 0 (ghSel suC0.2.1 suL) (ghOut suC0.2.1 suO) 3000 (ghA suC0) = true := by decide +kernel
set_option maxRecDepth 1000000 in
theorem suD_k : chkC eM240 suL 226 [(none, 1, 1)] suD = true := by decide +kernel
set_option maxRecDepth 1000000 in
theorem suE_k : chkL P39 kSg suQ eM240 0 (ghSel suE.2.1 suL) (ghOut suE.2.1 suO) 3000 (ghA suE) = true := by decide +kernel
theorem su_ok (hc : VC 15 246) : VC 17 240 := by
  intro t b m e κ s ht hκ h hG hJ hk
  obtain ⟨r, h2, t1, t2, t3, t4, o, o1, o2, o3⟩ := G_of (JF := tJ t b m e κ s) (mu := fun h => 60 - fN h 18) (WA := kWa) (d := 16) (mi := 240) (N := eM240) rfl (outs := suO) (Ls := suL.tail) (i := 0) (p := 9) (r := 0) rfl (gh_cons (G_seg (fun h h2 => tJ_fr h h2 _) (fun h h2 hG hf => by show 60 - fN h2 18 = 60 - fN h 18; rw [fN_keep hG hf ⟨_, rfl⟩ rfl]) rfl suQ_ok su0_k) (gh_cons (G_call (N := eM246) rfl suA_k (fun h ρ vs hG hJ hK hB hF hA => by
    have e1 := arg1 hA
    subst e1
    obtain ⟨r, h2, t1, t2, t3, t4, t5⟩ := hc t b m e κ s ht hκ h hG hJ hK
    refine ⟨r, h2, Trm_le (by decide) t1, t2, t3, t4, ?_⟩
    rcases t5 with t5 | ⟨t5, t6⟩
    · exact ⟨(some 0, 99, 0), List.mem_of_getElem? (i := 1) rfl, t5, trivial, (fun z => by cases z), (fun z => by cases z)⟩
    · exact ⟨(some 1, 1, 0), List.mem_of_getElem? (i := 0) rfl, t5, t6, (fun z => by cases z), (fun z => by cases z)⟩)) (gh_cons (G_seg (fun h h2 => tJ_fr h h2 _) (fun h h2 hG hf => by show 60 - fN h2 18 = 60 - fN h 18; rw [fN_keep hG hf ⟨_, rfl⟩ rfl]) rfl suQ_ok suA1_k) (gh_cons (G_seg (fun h h2 => tJ_fr h h2 _) (fun h h2 hG hf => by show 60 - fN h2 18 = 60 - fN h 18; rw [fN_keep hG hf ⟨_, rfl⟩ rfl]) rfl suQ_ok suA0_k) (gh_cons (G_seg (fun h h2 => tJ_fr h h2 _) (fun h h2 hG hf => by show 60 - fN h2 18 = 60 - fN h 18; rw [fN_keep hG hf ⟨_, rfl⟩ rfl]) rfl suQ_ok suB_k) (gh_cons (G_call (N := eM246) rfl suC_k (fun h ρ vs hG hJ hK hB hF hA => by
    have e1 := arg1 hA
    subst e1
    have hK : KS t b (m + 1) (e + 1) (κ - 4) s h := hK
    obtain ⟨op, md, dp, L, o, k1, k2⟩ := hK
    obtain ⟨r, h2, t1, t2, t3, t4, t5⟩ := hc t b md (e + 1) (κ - 4) s ht (by omega) h hG hJ ⟨op, md, dp, L, o, Nat.le_refl _, k2⟩
    refine ⟨r, h2, Trm_le (by decide) t1, t2, t3, t4, ?_⟩
    rcases t5 with t5 | ⟨t5, op2, md2, dp2, L2, o2, t6, t7⟩
    · exact ⟨(some 0, 99, 0), List.mem_of_getElem? (i := 1) rfl, t5, trivial, (fun z => by cases z), (fun z => by cases z)⟩
    · refine ⟨(some 1, 2, 2), List.mem_of_getElem? (i := 0) rfl, t5, ⟨op2, md2, dp2, L2, o2, by omega, by rw [show κ - 8 = κ - 4 - 4 by omega]; exact t7⟩, (fun z => by cases z), fun _ => ?_⟩
      have z1 := fN_of k2.2.2.1
      have z2 := fN_of t7.2.2.1
      have z3 := t7.2.2.2.2.2
      obtain ⟨_, _, _, _, _, _, _, _, _, _, p2, _⟩ := z3
      show 60 - fN h2 18 < 60 - fN h 18
      omega)) (gh_cons (G_seg (fun h h2 => tJ_fr h h2 _) (fun h h2 hG hf => by show 60 - fN h2 18 = 60 - fN h 18; rw [fN_keep hG hf ⟨_, rfl⟩ rfl]) rfl suQ_ok suC1_k) (gh_cons (G_seg (fun h h2 => tJ_fr h h2 _) (fun h h2 hG hf => by show 60 - fN h2 18 = 60 - fN h 18; rw [fN_keep hG hf ⟨_, rfl⟩ rfl]) rfl suQ_ok suC0_k) (gh_cons (G_call (N := eM226) rfl suD_k (fun h ρ vs hG hJ hK hB hF hA => by
    obtain ⟨a, v, e1, e2, e3⟩ := arg3 hA
    subst e1
    have hK : KS t b (m + 2) (e + 2) (κ - 8) s h := hK
    have b2 := xb_ok hB e2
    have b1 : 0 + 1 * 2 ≤ a.toInt := b2.1
    have b3 : a.toInt ≤ 0 + 1 * 3 := b2.2
    obtain ⟨h2, t1, t2, t3, t4, t5, t6⟩ := pt_S (e2 := e + 1) (s2 := s) hG hJ hK ht (by omega) (by omega) (a := a) (v := v) (sO_bin (by omega) (by omega) e3)
    exact ⟨none, h2, Trm_le (by decide) t1, t2, t3, t4, (none, 1, 1), List.mem_singleton.mpr rfl, trivial, KS_le (by omega) (Nat.le_refl _) (by omega) t5, (fun _ => by show 60 - fN h2 18 ≤ 60 - fN h 18; omega), (fun z => by cases z)⟩)) (gh_cons (G_seg (fun h h2 => tJ_fr h h2 _) (fun h h2 hG hf => by show 60 - fN h2 18 = 60 - fN h 18; rw [fN_keep hG hf ⟨_, rfl⟩ rfl]) rfl suQ_ok suE_k) (gh_nil))))))))))) hG hJ hk
  refine ⟨r, h2, t1, t2, t3, t4, ?_⟩
  rcases List.mem_cons.mp o1 with e1 | o1
  · subst e1
    exact Or.inl o2
  · have e1 := List.mem_singleton.mp o1
    subst e1
    exact Or.inr ⟨o2, o3⟩
theorem sum_ok : VC 17 240 := su_ok (te_ok vl_ok)
