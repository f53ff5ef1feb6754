/-! GHOSTS, 8: a compare (printed by wip/hand/gen89h.py) -/
def cJ_ (t b m : Nat) (κ : Int) (s : Nat) : Nat → List cC → Prop
  | 0 => KS t b m 0 κ s
  | 1 => KS t b (m + 1) 1 (κ - 4) s
  | 2 => KS t b (m + 2) 1 (κ - 9) (s + 1)
  | 3 => KS t b (m + 3) 2 (κ - 13) s
  | 4 => KS t b (m + 3) 1 (κ - 12) s
  | _ => fun _ => True
theorem cJ_fr {t b m : Nat} {κ : Int} {s : Nat} (h h2 : List cC) (i : Nat) (hG : HG TT [] h) (hf : Fr PT9 kSg h h2) (hk : cJ_ t b m κ s i h) : cJ_ t b m κ s i h2 := match i, hk with
  | 0, hk => KS_kS hf hk
  | 1, hk => KS_kS hf hk
  | 2, hk => KS_kS hf hk
  | 3, hk => KS_kS hf hk
  | 4, hk => KS_kS hf hk
  | _ + 5, _ => trivial
abbrev cpQ : aQ := mkQ P39 kSg [zn156] 3000 2
theorem cpQ_ok : Qok P9 kSg 18 cpQ := mkQ_ok J9_ok (d := 16) (cs_cons (Con_le (by decide) zt156) (cs_nil)) 3000 2
abbrev cp0 : ghL := ((0, [(0, .inl [170])], [], [], [], []), 0, 12, 0)
abbrev cpA : ghL := ((1, [(0, .inl [170])], [.inl [170]], [], [], []), 0, 11, 0)
abbrev cpA1 : ghL := ((4, [(0, .inl [170])], [.inr (.inl (.inl 1))], [], [], []), 1, 10, 0)
abbrev cpA0 : ghL := ((4, [(0, .inl [170])], [.inr (.inl (.inl 0))], [], [], []), 99, 10, 0)
abbrev cpB : ghL := ((107, [(0, .inl [170]), (1, .inr (.inl (.inr (0, 1, 0)))), (2, .inr (.inl (.inr (0, 1, 1)))), (3, .inr (.inl (.inr (0, 1, 2))))], [.inr (.inl (.inr (0, 1, 1))), .inl [170]], [], [((-2147483648), 2147483647), ((-2147483648), 2147483647), (0, 1)], []), 1, 9, 0)
abbrev cpB1 : ghL := ((110, [(0, .inl [170]), (1, .inr (.inl (.inr (0, 1, 0)))), (3, .inr (.inl (.inr (0, 1, 1))))], [.inr (.inl (.inl 1))], [], [((-2147483648), 2147483647), (0, 1)], []), 2, 8, 0)
abbrev cpB0 : ghL := ((110, [(0, .inl [170])], [.inr (.inl (.inl 0))], [], [], []), 99, 8, 0)
abbrev cpC : ghL := ((155, [(0, .inl [170]), (4, .inr (.inl (.inr (0, 1, 0))))], [.inl [170]], [], [(0, 4)], []), 2, 7, 0)
abbrev cpC1 : ghL := ((158, [(0, .inl [170]), (4, .inr (.inl (.inr (0, 1, 0))))], [.inr (.inl (.inl 1))], [], [(0, 4)], []), 3, 6, 0)
abbrev cpC0 : ghL := ((158, [(0, .inl [170])], [.inr (.inl (.inl 0))], [], [], []), 99, 6, 0)
abbrev cpD : ghL := ((170, [(0, .inl [170])], [.inr (.inl (.inl 0)), .inr (.inl (.inr (0, 1, 0))), .inl [170]], [], [(6, 10)], []), 3, 5, 0)
abbrev cpD1 : ghL := ((173, [(0, .inl [170])], [], [], [], []), 4, 4, 0)
abbrev cpL : List ghL := [cp0, cpA, cpA1, cpA0, cpB, cpB1, cpB0, cpC, cpC1, cpC0, cpD, cpD1]
abbrev cpO : List ghO := [(some 0, 99), (some 0, 1), (some 1, 4)]
set_option maxRecDepth 1000000 in
theorem cp0_k : chkL P39 kSg cpQ eM169 0 (ghSel cp0.2.1 cpL) (ghOut cp0.2.1 cpO) 3000 (ghA cp0) = true := by decide +kernel
set_option maxRecDepth 1000000 in
theorem cpA_k : chkC eM169 cpL 240 [(some 1, 1, 0), (some 0, 99, 0)] cpA = true := by decide +kernel
set_option maxRecDepth 1000000 in
theorem cpA1_k : chkL P39 kSg cpQ eM169 0 (ghSel cpA1.2.1 cpL) (ghOut cpA1.2.1 cpO) 3000 (ghA cpA1) = true := by decide +kernel
set_option maxRecDepth 1000000 in
theorem cpA0_k : chkL P39 kSg cpQ eM169 0 (ghSel cpA0.2.1 cpL) (ghOut cpA0.2.1 cpO) 3000 (ghA cpA0) = true := by decide +kernel
set_option maxRecDepth 1000000 in
theorem cpB_k : chkC eM169 cpL 215 [(some 1, 2, 0), (some 0, 99, 0)] cpB = true := by decide +kernel
set_option maxRecDepth 1000000 in
theorem cpB1_k : chkL P39 kSg cpQ eM169 0 (ghSel cpB1.2.1 cpL) (ghOut cpB1.2.1 cpO) 3000 (ghA cpB1) = true := by decide +kernel
set_option maxRecDepth 1000000 in
theorem cpB0_k : chkL P39 kSg cpQ eM169 0 (ghSel cpB0.2.1 cpL) (ghOut cpB0.2.1 cpO) 3000 (ghA cpB0) = true := by decide +kernel
set_option maxRecDepth 1000000 in
theorem cpC_k : chkC eM169 cpL 240 [(some 1, 3, 0), (some 0, 99, 0)] cpC = true := by decide +kernel
set_option maxRecDepth 1000000 in
theorem cpC1_k : chkL P39 kSg cpQ eM169 0 (ghSel cpC1.2.1 cpL) (ghOut cpC1.2.1 cpO) 3000 (ghA cpC1) = true := by decide +kernel
set_option maxRecDepth 1000000 in
theorem cpC0_k : chkL P39 kSg cpQ eM169 0 (ghSel cpC0.2.1 cpL) (ghOut cpC0.2.1 cpO) 3000 (ghA cpC0) = true := by decide +kernel
set_option maxRecDepth 1000000 in
theorem cpD_k : chkC eM169 cpL 226 [(none, 4, 0)] cpD = true := by decide +kernel
set_option maxRecDepth 1000000 in
theorem cpD1_k : chkL P39 kSg cpQ eM169 0 (ghSel cpD1.2.1 cpL) (ghOut cpD1.2.1 cpO) 3000 (ghA cpD1) = true := by decide +kernel
theorem cp_ok {t b m : Nat} {κ : Int} {s : Nat} (ht : t < 6) (hκ : κ ≤ 80) {h : List cC} (hG : HG TT [] h) (hJ : J9 h) (hk : KS t b m 0 κ s h) : ∃ (r : Option cV) (h2 : List cC), Trm 19 169 [cR 170] h r h2 ∧ HG TT [] h2 ∧ Fr PT9 kWa h h2 ∧ J9 h2 ∧ (retV [] (ghR (some 0)) r ∨ (retV [] (ghR (some 1)) r ∧ KS t b (m + 3) 1 (κ - 12) s h2)) := by
  obtain ⟨r, h2, t1, t2, t3, t4, o, o1, o2, o3⟩ := G_of (JF := cJ_ t b m κ s) (mu := fun _ => 0) (WA := kWa) (d := 18) (mi := 169) (N := eM169) rfl (outs := cpO) (Ls := cpL.tail) (i := 0) (p := 12) (r := 0) rfl (gh_cons (G_seg (fun h h2 => cJ_fr h h2 _) (fun _ _ _ _ => rfl) rfl cpQ_ok cp0_k) (gh_cons (G_call (N := eM240) rfl cpA_k (fun h ρ vs hG hJ hK hB hF hA => by
    have e1 := arg1 hA
    subst e1
    obtain ⟨r, h2, t1, t2, t3, t4, t5⟩ := sum_ok t b m 0 κ s ht hκ h hG hJ hK
    refine ⟨r, h2, Trm_le (by decide) t1, t2, t3, t4, ?_⟩
    rcases t5 with t5 | ⟨t5, t6⟩
    · exact ⟨(some 0, 99, 0), List.mem_of_getElem? (i := 1) rfl, t5, trivial, (fun z => by cases z), (fun z => by cases z)⟩
    · exact ⟨(some 1, 1, 0), List.mem_of_getElem? (i := 0) rfl, t5, t6, (fun z => by cases z), (fun z => by cases z)⟩)) (gh_cons (G_seg (fun h h2 => cJ_fr h h2 _) (fun _ _ _ _ => rfl) rfl cpQ_ok cpA1_k) (gh_cons (G_seg (fun h h2 => cJ_fr h h2 _) (fun _ _ _ _ => rfl) rfl cpQ_ok cpA0_k) (gh_cons (G_call (N := eM215) rfl cpB_k (fun h ρ vs hG hJ hK hB hF hA => by
    obtain ⟨a, e1, e2⟩ := arg2 hA
    subst e1
    have hK : KS t b (m + 1) 1 (κ - 4) s h := hK
    obtain ⟨r, h2, t1, t2, t3, t4, t5⟩ := mk_ok hG hJ hK a
    refine ⟨r, h2, Trm_le (by decide) t1, t2, t3, t4, ?_⟩
    rcases t5 with t5 | ⟨t5, t6⟩
    · exact ⟨(some 0, 99, 0), List.mem_of_getElem? (i := 1) rfl, t5, trivial, (fun z => by cases z), (fun z => by cases z)⟩
    · exact ⟨(some 1, 2, 0), List.mem_of_getElem? (i := 0) rfl, t5, (by rw [show κ - 4 - 5 = κ - 9 by omega] at t6; exact t6), (fun z => by cases z), (fun z => by cases z)⟩)) (gh_cons (G_seg (fun h h2 => cJ_fr h h2 _) (fun _ _ _ _ => rfl) rfl cpQ_ok cpB1_k) (gh_cons (G_seg (fun h h2 => cJ_fr h h2 _) (fun _ _ _ _ => rfl) rfl cpQ_ok cpB0_k) (gh_cons (G_call (N := eM240) rfl cpC_k (fun h ρ vs hG hJ hK hB hF hA => by
    have e1 := arg1 hA
    subst e1
    have hK : KS t b (m + 2) 1 (κ - 9) (s + 1) h := hK
    obtain ⟨r, h2, t1, t2, t3, t4, t5⟩ := sum_ok t b (m + 2) 1 (κ - 9) s ht (by omega) h hG hJ (KS_le (Int.le_refl _) (by omega) (Nat.le_refl _) hK)
    refine ⟨r, h2, Trm_le (by decide) t1, t2, t3, t4, ?_⟩
    rcases t5 with t5 | ⟨t5, t6⟩
    · exact ⟨(some 0, 99, 0), List.mem_of_getElem? (i := 1) rfl, t5, trivial, (fun z => by cases z), (fun z => by cases z)⟩
    · exact ⟨(some 1, 3, 0), List.mem_of_getElem? (i := 0) rfl, t5, (by rw [show κ - 9 - 4 = κ - 13 by omega] at t6; exact t6), (fun z => by cases z), (fun z => by cases z)⟩)) (gh_cons (G_seg (fun h h2 => cJ_fr h h2 _) (fun _ _ _ _ => rfl) rfl cpQ_ok cpC1_k) (gh_cons (G_seg (fun h h2 => cJ_fr h h2 _) (fun _ _ _ _ => rfl) rfl cpQ_ok cpC0_k) (gh_cons (G_call (N := eM226) rfl cpD_k (fun h ρ vs hG hJ hK hB hF hA => by
    obtain ⟨a, v, e1, e2, e3⟩ := arg3 hA
    subst e1
    have hK : KS t b (m + 3) 2 (κ - 13) s h := hK
    have b2 := xb_ok hB e2
    have b1 : 0 + 1 * 6 ≤ a.toInt := b2.1
    have b3 : a.toInt ≤ 0 + 1 * 10 := b2.2
    obtain ⟨h2, t1, t2, t3, t4, t5, t6⟩ := pt_S (e2 := 1) (s2 := s) hG hJ hK ht (by omega) (by omega) (a := a) (v := v) (sO_bin (e := 0) (by omega) (by omega) e3)
    rw [show κ - 13 + 1 = κ - 12 by omega] at t5
    exact ⟨none, h2, Trm_le (by decide) t1, t2, t3, t4, (none, 4, 0), List.mem_singleton.mpr rfl, trivial, t5, (fun z => by cases z), (fun z => by cases z)⟩)) (gh_cons (G_seg (fun h h2 => cJ_fr h h2 _) (fun _ _ _ _ => rfl) rfl cpQ_ok cpD1_k) (gh_nil))))))))))))) hG hJ hk
  refine ⟨r, h2, t1, t2, t3, t4, ?_⟩
  rcases List.mem_cons.mp o1 with e1 | o1
  · subst e1
    exact Or.inl o2
  · rcases List.mem_cons.mp o1 with e1 | o1
    · subst e1
      exact Or.inl o2
    · have e1 := List.mem_singleton.mp o1
      subst e1
      exact Or.inr ⟨o2, o3⟩
