/-! THE WAY, 8: goesOn, its hours -/
abbrev goWc : aW := [(170, 24), (181, 1000), (182, 1000), (188, 1000), (189, 1000), (190, 1000), (191, 1000), (192, 1000), (193, 1000), (194, 1000), (195, 1000), (196, 1000), (197, 1000)]
theorem o_bald2 {call : cCl} {M : eM} {pc : Nat} {ls : List (Nat × cV)} {st : List cV} {h : List cC} {k n : Nat} {f : Nat → Int32} {i : Int32} (hf : fnd (m_il M) pc = some (.baload, 1)) (hk : h[k]? = some (.inr (.inl (2, n, f)))) (hi : inB i n = true) : cOne call M none (pc, ls, cI i :: cR k :: st, h) = some (pc + 1, ls, cI (f i.toNatClampNeg) :: st, h) := o_step hf (kBald_at (kd := 2) rfl hk hi)
theorem go_inner {fw fm fn f : Nat → Int32} {fo mn : Nat} {lw hr : Int32} (hlw : 0 ≤ lw.toInt ∧ lw.toInt ≤ 5) (h0 : 0 < hr.toInt) (h9 : hr.toInt ≤ 99) : ∀ (n T : Nat) (i : Int32) (ls : List (Nat × cV)) (h : List cC), T + n = mn → i.toInt = T → clk ls 0 = some (cR 170) → clk ls 1 = some (cI lw) → clk ls 4 = some (cI hr) → clk ls 5 = some (cI i) → HG TT [] h → J9 h → RX fw fm fn f fo mn h → ∃ (ls2 : List (Nat × cV)) (h2 : List cC), Go (calF (Trm 7)) eM185 none (172, ls, [], h) (218, ls2, [], h2) ∧ clk ls2 0 = some (cR 170) ∧ clk ls2 1 = some (cI lw) ∧ clk ls2 4 = some (cI hr) ∧ HG TT [] h2 ∧ Fr PT9 tlW h h2 ∧ J9 h2 ∧ RX fw fm fn f fo mn h2
  | 0, T, i, ls, h, hT, hi, c0, c1, c4, c5, hG, hJ, hk => by
    obtain ⟨vs, m1, _⟩ := mo_at hG
    obtain ⟨x, x1, x2⟩ := fv_at m1 hk.1.2.2.2.2.1
    have hd : cDec .ge i x = true := decide_eq_true (Int32.le_iff_toInt_le.mpr (by omega))
    exact ⟨ls, h, Go.step (o_iload rfl c5) (Go.step (o_aload_n (i := 0) rfl c0) (Go.step (o_get rfl rfl rfl m1 x1) (Go.step (o_ic_t (t := 218) rfl rfl hd) Go.rf))), c0, c1, c4, hG, Fr.rf, hJ, hk⟩
  | n + 1, T, i, ls, h, hT, hi, c0, c1, c4, c5, hG, hJ, hk => by
    obtain ⟨vs, m1, _⟩ := mo_at hG
    obtain ⟨x, x1, x2⟩ := fv_at m1 hk.1.2.2.2.2.1
    have hmn : mn ≤ 31 := hk.1.2.2.2.2.2.2.1
    have hd : cDec .ge i x = false := decide_eq_false (fun z => by have := Int32.le_iff_toInt_le.mp z; omega)
    have m29 := mo_j hG m1 (j := 29) (k := 186) rfl
    have m30 := mo_j hG m1 (j := 30) (k := 187) rfl
    obtain ⟨i1, i2⟩ := in_B (n := 31) hi (by omega)
    have r3 := hk.1.2.2.1
    obtain ⟨fu, r7, _⟩ := HG_row hG (k := 187) (kd := 2) (n := 31) (d := (0, 1)) rfl
    have s187 : ∀ st : List cV, cOne (calF (Trm 7)) eM185 none (187, ls, cI i :: cR 186 :: st, h) = some (188, ls, cI (fn T) :: st, h) := fun st => by
      have := o_iald (call := calF (Trm 7)) (M := eM185) (sc := none) (pc := 187) (ls := ls) (st := st) rfl r3 i1
      rw [i2] at this
      exact this
    have s199 : ∀ st : List cV, cOne (calF (Trm 7)) eM185 none (199, ls, cI i :: cR 187 :: st, h) = some (200, ls, cI (fu T) :: st, h) := fun st => by
      have := o_bald2 (call := calF (Trm 7)) (M := eM185) (pc := 199) (ls := ls) (st := st) rfl r7 i1
      rw [i2] at this
      exact this
    have hi1 : (i + Int32.ofInt 1).toInt = ((T + 1 : Nat) : Int) := by
      rw [i32_add (by rw [one_i]; omega) (by rw [one_i]; omega), one_i]
      omega
    have next : ∀ h3 : List cC, HG TT [] h3 → J9 h3 → Fr PT9 tlW h h3 → RX fw fm fn f fo mn h3 → ∃ (ls9 : List (Nat × cV)) (h9 : List cC), Go (calF (Trm 7)) eM185 none (212, ls, [], h3) (218, ls9, [], h9) ∧ clk ls9 0 = some (cR 170) ∧ clk ls9 1 = some (cI lw) ∧ clk ls9 4 = some (cI hr) ∧ HG TT [] h9 ∧ Fr PT9 tlW h h9 ∧ J9 h9 ∧ RX fw fm fn f fo mn h9 := fun h3 g1 g2 g3 g4 => by
      obtain ⟨ls9, h9', z1, z2, z3, z4, z5, z6, z7, z8⟩ := go_inner hlw h0 h9 n (T + 1) (i + Int32.ofInt 1) ((5, cI (i + Int32.ofInt 1)) :: ls.filter (ckI 5)) h3 (by omega) hi1 (clk_st rfl rfl rfl c0) (clk_st rfl rfl rfl c1) (clk_st rfl rfl rfl c4) clk_hd g1 g2 g4
      exact ⟨ls9, h9', Go.step (o_inc rfl rfl c5) (Go.step (o_step rfl rfl) z1), z2, z3, z4, z5, Fr.tr (subW_rf tlW) g3 z6, z7, z8⟩
    have pre : ∀ S : cS, Go (calF (Trm 7)) eM185 none (190, ls, [cI hr, cI (fn T)], h) S → Go (calF (Trm 7)) eM185 none (172, ls, [], h) S := fun S hs => Go.step (o_iload rfl c5) (Go.step (o_aload_n (i := 0) rfl c0) (Go.step (o_get rfl rfl rfl m1 x1) (Go.step (o_ic_f (t := 218) rfl rfl hd) (Go.step (o_aload_n (i := 0) rfl c0) (Go.step (o_get rfl rfl rfl m1 m29) (Go.step (o_iload rfl c5) (Go.step (s187 _) (Go.step (o_iload rfl c4) hs))))))))
    by_cases q1 : fn T = hr
    · have q1d : cDec .ne (fn T) hr = false := decide_eq_false (fun z => z q1)
      have pre2 : ∀ S : cS, Go (calF (Trm 7)) eM185 none (200, ls, [cI (fu T)], h) S → Go (calF (Trm 7)) eM185 none (172, ls, [], h) S := fun S hs => pre _ (Go.step (o_ic_f (t := 212) rfl rfl q1d) (Go.step (o_aload_n (i := 0) rfl c0) (Go.step (o_get rfl rfl rfl m1 m30) (Go.step (o_iload rfl c5) (Go.step (s199 _) hs)))))
      by_cases q2 : fu T = 0
      · have q2d : cDec .ne (fu T) 0 = false := decide_eq_false (fun z => z q2)
        obtain ⟨h3, y1, y2, y3, y4, y5⟩ := tl_ok (lw := lw) hG hJ hk hi (by omega) q1 h0 h9 hlw
        have s209 : cOne (calF (Trm 7)) eM185 none (209, ls, [cI lw, cI hr, cI i, cR 170], h) = some (212, ls, [], h3) := gh_inv (d := 7) (mi := 245) (N := eM245) (pc := 209) (ls := ls) (st := [cI lw, cI hr, cI i, cR 170]) (r := none) rfl rfl rfl rfl rfl (by show recC h 12 [cR 170, cI i, cI hr, cI lw] = true; unfold recC; dsimp only; rw [m1]; rfl) (Trm_le (by decide) y1)
        obtain ⟨ls9, h9', z1, z2⟩ := next h3 y2 y4 y3 y5
        exact ⟨ls9, h9', pre2 _ (Go.step (o_if_f (t := 212) rfl rfl q2d) (Go.step (o_aload_n (i := 0) rfl c0) (Go.step (o_iload rfl c5) (Go.step (o_iload rfl c4) (Go.step (o_iload_n (i := 1) rfl c1) (Go.step s209 z1)))))), z2⟩
      · have q2d : cDec .ne (fu T) 0 = true := decide_eq_true q2
        obtain ⟨ls9, h9', z1, z2⟩ := next h hG hJ Fr.rf hk
        exact ⟨ls9, h9', pre2 _ (Go.step (o_if_t (t := 212) rfl rfl q2d) z1), z2⟩
    · have q1d : cDec .ne (fn T) hr = true := decide_eq_true q1
      obtain ⟨ls9, h9', z1, z2⟩ := next h hG hJ Fr.rf hk
      exact ⟨ls9, h9', pre _ (Go.step (o_ic_t (t := 212) rfl rfl q1d) z1), z2⟩
theorem go_hour {fw fm fn f : Nat → Int32} {fo mn : Nat} {lw : Int32} (hlw : 0 ≤ lw.toInt ∧ lw.toInt ≤ 5) : ∀ (n : Nat) (hr : Int32) (ls : List (Nat × cV)) (h : List cC), hr.toInt + (n : Int) = 100 → 1 ≤ hr.toInt → clk ls 0 = some (cR 170) → clk ls 1 = some (cI lw) → clk ls 4 = some (cI hr) → HG TT [] h → J9 h → RX fw fm fn f fo mn h → ∃ (ls2 : List (Nat × cV)) (h2 : List cC), Go (calF (Trm 7)) eM185 none (162, ls, [], h) (305, ls2, [], h2) ∧ HG TT [] h2 ∧ Fr PT9 goWc h h2 ∧ J9 h2 ∧ RX fw fm fn f fo mn h2
  | 0, hr, ls, h, hn, h1, c0, c1, c4, hG, hJ, hk => by
    have e99 : ((Int8.ofInt 99).toInt32).toInt = 99 := rfl
    have hd : cDec .gt hr (Int8.ofInt 99).toInt32 = true := decide_eq_true (Int32.lt_iff_toInt_lt.mpr (by omega))
    exact ⟨ls, h, Go.step (o_iload rfl c4) (Go.step (o_step rfl rfl) (Go.step (o_ic_t (t := 305) rfl rfl hd) Go.rf)), hG, Fr.rf, hJ, hk⟩
  | n + 1, hr, ls, h, hn, h1, c0, c1, c4, hG, hJ, hk => by
    have e99 : ((Int8.ofInt 99).toInt32).toInt = 99 := rfl
    have hd : cDec .gt hr (Int8.ofInt 99).toInt32 = false := decide_eq_false (fun z => by have := Int32.lt_iff_toInt_lt.mp z; omega)
    obtain ⟨ls2, h2, z1, z2, z3, z4, z5, z6, z7, z8⟩ := go_inner hlw (hr := hr) (by omega) (by omega) mn 0 (Int32.ofInt 0) ((5, cI (Int32.ofInt 0)) :: ls.filter (ckI 5)) h (by omega) rfl (clk_st rfl rfl rfl c0) (clk_st rfl rfl rfl c1) (clk_st rfl rfl rfl c4) clk_hd hG hJ hk
    have hQ : Qok P9 goWd 7 (mkQ P39 goWd [zn177] 3000 0) := Qok_le (by decide) (mkQ_ok J9_ok (d := 4) (cs_cons (Con_le (by decide) zt177) cs_nil) 3000 0)
    have hO : ∀ l ∈ [gq218, gq221], Obl P9 goWd 7 eM185 2 [] ([gq218, gq221] ++ [gq162]) l := gh_cons (chkL_ok J9_ok hQ gq218_k) (gh_cons (chkL_ok J9_ok hQ gq221_k) gh_nil)
    obtain ⟨S2, y1, y2, l2, y3, ρ2, y4, y5, y6, y7, y8, y9, y10⟩ := Obl_un hO (ρ0 := [lw.toInt, hr.toInt]) rfl (h0 := h2) _ gq218 List.mem_cons_self [lw.toInt, hr.toInt] (218, ls2, [], h2) rfl rfl z5 (bcons ⟨by show (0 : Int) ≤ _; omega, by show _ ≤ (5 : Int); omega⟩ (bcons ⟨by show (1 : Int) ≤ _; omega, by show _ ≤ (99 : Int); omega⟩ bnil)) ⟨List.prefix_rfl, fun q hq => by cases hq⟩ (fun q hq => by
      simp only [List.mem_cons, List.not_mem_nil, or_false] at hq
      rcases hq with rfl | rfl | rfl
      · exact ⟨_, z2, 170, List.mem_singleton.mpr rfl, rfl⟩
      · exact ⟨_, z3, vxs rfl⟩
      · exact ⟨_, z4, vxs rfl⟩) trivial (fun q hq => by cases hq) ⟨Fr.rf, z7⟩
    have e := List.mem_singleton.mp y3
    subst e
    obtain ⟨S2pc, ls3, st3, h3⟩ := S2
    dsimp only at y1 y2 y4 y5 y8 y9 y10
    have e2 : st3 = [] := by
      cases st3 with
      | nil => rfl
      | cons _ _ => exact y9.elim
    subst y4 e2
    have F3 : Fr PT9 goWd h2 h3 := y2.1
    have J3 : J9 h3 := y2.2
    have R3 : RX fw fm fn f fo mn h3 := RX_keep F3 ⟨rfl, rfl, rfl, rfl, rfl, rfl⟩ ⟨rfl, rfl⟩ z8
    have d0 := vR y8 (j := 0) (k := 170) (List.mem_of_getElem? (i := 0) rfl)
    obtain ⟨u1, d1, v1⟩ := vL y8 (j := 1) (i := 0) (c := 0) (List.mem_of_getElem? (i := 1) rfl) (at_mono y7.1 (rfl : [lw.toInt, hr.toInt][0]? = some lw.toInt))
    have e1 : u1 = lw := Int32.toInt_inj.mp (by omega)
    subst e1
    obtain ⟨u4, d4, v4⟩ := vL y8 (j := 4) (i := 1) (c := 1) (List.mem_of_getElem? (i := 2) rfl) (at_mono y7.1 (rfl : [u1.toInt, hr.toInt][1]? = some hr.toInt))
    obtain ⟨ls9, h9', x1, x2, x3, x4, x5⟩ := go_hour hlw n u4 ls3 h3 (by omega) (by omega) d0 d1 d4 y5 J3 R3
    exact ⟨ls9, h9', Go.step (o_iload rfl c4) (Go.step (o_step rfl rfl) (Go.step (o_ic_f (t := 305) rfl rfl hd) (Go.step (o_step rfl rfl) (Go.step (o_ist rfl rfl) (z1.trans (y1.trans x1)))))), x2, Fr.tr (subW_rf goWc) (Fr.tr (W2 := goWd) rfl (Fr.tr (W2 := tlW) rfl Fr.rf z6) F3) x3, x4, x5⟩
