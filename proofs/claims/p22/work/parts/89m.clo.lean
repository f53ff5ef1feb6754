/-! GHOSTS, 13: a clause of a LAW, whole -/
theorem co_end {t cl ln b L md dp : Nat} {o : Nat → Int32} (ht : t < 6) (hcl : cl + 1 ≤ 12) {so A : Int32} (hA : A.toInt = ((36 * t + 3 * cl : Nat) : Int)) {gc cc : Nat → Int32} {h : List cC} (hG : HG TT [] h) (hJ : J9 h) (hk : KX t b 0 md dp L o 1 (-2) 0 h) (r4 : h[174]? = some (.inr (.inl (0, 216, gc)))) (hgb : (gc (36 * t + 3 * cl + 1)).toInt = b) (r5 : h[175]? = some (.inr (.inl (0, 6, cc)))) (hcc : (cc t).toInt = cl) (kl : fv h 20 ln) : ∃ h2 : List cC, Go (calF (Trm 23)) eM165 none (57, coL so A, [], h) (88, coL so A, [cI (Int32.ofInt 1)], h2) ∧ HG TT [] h2 ∧ Fr PT9 kVc h h2 ∧ J9 h2 ∧ KCx t (cl + 1) ln h2 := by
  obtain ⟨q1, q2, q3, q4, k5, f, g, gc', cc', k6, k7, k8, k9, k10, p1, p2, p3, p4, p5, p6, p7, p8, p9⟩ := hk
  rw [r4] at k8
  cases k8
  rw [r5] at k9
  cases k9
  obtain ⟨vs, m1, m3, m4, m5, m6, m7⟩ := mo_at hG
  obtain ⟨x, x1, x2⟩ := fv_at m1 q1
  obtain ⟨i1, i2⟩ := in_B (n := 6) x2 ht
  obtain ⟨j1, j2⟩ := in_B (n := 7) x2 (by omega)
  have e2 : (Int32.ofInt 2).toInt = 2 := rfl
  have a4 : (A + Int32.ofInt 2).toInt = ((36 * t + 3 * cl + 2 : Nat) : Int) := by
    rw [i32_add (by rw [e2]; omega) (by rw [e2]; omega), e2]
    omega
  obtain ⟨w1, w2⟩ := in_B (n := 216) a4 (by omega)
  have hL4 : L ≤ 400 := by omega
  have c1 : (cc t + Int32.ofInt 1).toInt = ((cl + 1 : Nat) : Int) := by
    rw [i32_add (by rw [one_i]; omega) (by rw [one_i]; omega), one_i]
    omega
  have s72 : ∀ (ls : List (Nat × cV)) (st : List cV), cOne (calF (Trm 23)) eM165 none (72, ls, cI x :: cR 173 :: st, h) = some (73, ls, cI (g t) :: st, h) := fun ls st => by
    have := o_iald (call := calF (Trm 23)) (M := eM165) (sc := none) (pc := 72) (ls := ls) (st := st) rfl k7 j1
    rw [j2] at this
    exact this
  have s73 : ∀ (ls : List (Nat × cV)) (st : List cV), cOne (calF (Trm 23)) eM165 none (73, ls, cI (g t) :: cI (A + Int32.ofInt 2) :: cR 174 :: st, h) = some (74, ls, st, h.set 174 (.inr (.inl (0, 216, upd gc (36 * t + 3 * cl + 2) (g t))))) := fun ls st => by
    have := o_iast (call := calF (Trm 23)) (M := eM165) (sc := none) (pc := 73) (ls := ls) (st := st) (x := g t) rfl r4 w1
    rw [w2] at this
    exact this
  have u1 : (h.set 174 (.inr (.inl (0, 216, upd gc (36 * t + 3 * cl + 2) (g t)))))[170]? = some (.inl (12, vs)) := rw_ne (by decide) m1
  have u5 : (h.set 174 (.inr (.inl (0, 216, upd gc (36 * t + 3 * cl + 2) (g t)))))[175]? = some (.inr (.inl (0, 6, cc))) := rw_ne (by decide) r5
  have s83 : ∀ (ls : List (Nat × cV)) (st : List cV), cOne (calF (Trm 23)) eM165 none (83, ls, cI x :: cR 175 :: st, h.set 174 (.inr (.inl (0, 216, upd gc (36 * t + 3 * cl + 2) (g t))))) = some (84, ls, cI (cc t) :: st, h.set 174 (.inr (.inl (0, 216, upd gc (36 * t + 3 * cl + 2) (g t))))) := fun ls st => by
    have := o_iald (call := calF (Trm 23)) (M := eM165) (sc := none) (pc := 83) (ls := ls) (st := st) rfl u5 i1
    rw [i2] at this
    exact this
  have s86 : ∀ (ls : List (Nat × cV)) (st : List cV), cOne (calF (Trm 23)) eM165 none (86, ls, cI (cc t + Int32.ofInt 1) :: cI x :: cR 175 :: st, h.set 174 (.inr (.inl (0, 216, upd gc (36 * t + 3 * cl + 2) (g t))))) = some (87, ls, st, (h.set 174 (.inr (.inl (0, 216, upd gc (36 * t + 3 * cl + 2) (g t))))).set 175 (.inr (.inl (0, 6, upd cc t (cc t + Int32.ofInt 1))))) := fun ls st => by
    have := o_iast (call := calF (Trm 23)) (M := eM165) (sc := none) (pc := 86) (ls := ls) (st := st) (x := cc t + Int32.ofInt 1) rfl u5 i1
    rw [i2] at this
    exact this
  refine ⟨(h.set 174 (.inr (.inl (0, 216, upd gc (36 * t + 3 * cl + 2) (g t))))).set 175 (.inr (.inl (0, 6, upd cc t (cc t + Int32.ofInt 1)))), Go.step (o_aload_n (i := 0) rfl rfl) (Go.step (o_get rfl rfl rfl m1 m5) (Go.step (o_iload_n (i := 2) rfl rfl) (Go.step (o_step rfl rfl) (Go.step (o_step rfl rfl) (Go.step (o_aload_n (i := 0) rfl rfl) (Go.step (o_get rfl rfl rfl m1 m4) (Go.step (o_aload_n (i := 0) rfl rfl) (Go.step (o_get rfl rfl rfl m1 x1) (Go.step (s72 _ _) (Go.step (s73 _ _) (Go.step (o_aload_n (i := 0) rfl rfl) (Go.step (o_get rfl rfl rfl u1 m6) (Go.step (o_aload_n (i := 0) rfl rfl) (Go.step (o_get rfl rfl rfl u1 x1) (Go.step (o_step rfl rfl) (Go.step (s83 _ _) (Go.step (o_step rfl rfl) (Go.step (o_step rfl rfl) (Go.step (s86 _ _) (Go.step (o_step rfl rfl) Go.rf)))))))))))))))))))), HG_175 (HG_174 hG r4 (by omega) (by omega)) u5 (by omega) (by omega), Fr_rw (Fr_rw Fr.rf r4 rfl rfl) u5 rfl rfl, ⟨JL_row hJ.1 (fun k hk => by rw [List.getElem?_set_ne (Ne.symm (lawK_n hk).2.1), List.getElem?_set_ne (Ne.symm (lawK_n hk).1)]), ?_⟩, ?_⟩
  · intro f3 g3 c3 e1 e2 e3 t' j ht' hj hc
    rw [List.getElem?_set_ne (by decide), List.getElem?_set_ne (by decide), k6] at e1
    rw [List.getElem?_set_ne (by decide), List.getElem?_set_self (List.getElem?_eq_some_iff.mp r4).1] at e2
    rw [List.getElem?_set_self (List.getElem?_eq_some_iff.mp u5).1] at e3
    cases e1
    cases e2
    cases e3
    by_cases e : t' = t ∧ j = cl
    · obtain ⟨e4, e5⟩ := e
      subst e4 e5
      refine ⟨b, L, by rw [pk_un (by omega)]; exact hgb, by rw [pk_us]; exact k10, p1, hL4, ?_⟩
      exact p6
    · have hc2 : (j : Int) < (cc t').toInt := by
        by_cases e4 : t' = t
        · subst e4
          rw [pk_us] at hc
          omega
        · rw [pk_un e4] at hc
          exact hc
      have h2 : 36 * t' + 3 * j + 2 ≠ 36 * t + 3 * cl + 2 := fun z => e (by omega)
      rw [pk_un h2, pk_un (show 36 * t' + 3 * j + 1 ≠ 36 * t + 3 * cl + 2 by omega)]
      exact hJ.2 f gc cc k6 r4 r5 t' j ht' hj hc2
  · refine ⟨md, L, o, f, g, _, _, fv_row (by decide) (fv_row (by decide) q1), fv_row (by decide) (fv_row (by decide) q3), fv_row (by decide) (fv_row (by decide) kl), p2, by omega, rw_ne (by decide) (rw_ne (by decide) k5), rw_ne (by decide) (rw_ne (by decide) k6), rw_ne (by decide) (rw_ne (by decide) k7), rw_ne (by decide) (rw_eq r4), rw_eq u5, k10, by rw [pk_us]; exact c1, fun j hj hc => ?_⟩
    rw [pk_us] at hc
    by_cases e : j = cl
    · subst e
      rw [pk_us]
      omega
    · rw [pk_un (by omega)]
      have := p9 j hj (by omega)
      omega
theorem co_ok {t cl ln : Nat} (ht : t < 6) (hcl : cl + 1 ≤ 12) {so : Int32} (hso : 0 ≤ so.toInt ∧ so.toInt ≤ 1) {h : List cC} (hG : HG TT [] h) (hJ : J9 h) (hk : KCx t cl ln h) : ∃ (r : Option cV) (h2 : List cC), Trm 24 165 [cR 170, cI so] h r h2 ∧ HG TT [] h2 ∧ Fr PT9 kVc h h2 ∧ J9 h2 ∧ (retV [] (ghR (some 0)) r ∨ (retV [] (ghR (some 1)) r ∧ KCx t (cl + 1) ln h2)) := by
  obtain ⟨h1, t1, t2, t3, t4⟩ := pw_ok hG hJ
  have hk1 : KCx t cl ln h1 := KCx_keep t3 ⟨rfl, rfl, rfl, rfl, rfl, rfl, rfl, rfl⟩ hk
  obtain ⟨h2, A, b, gc, a1, a2, a3, a4, a5, a6, a7, a8, a9⟩ := co_pre ht hcl hso t2 t4 hk1
  obtain ⟨r, h3, b1, b2, b3, b4, b5⟩ := ts_ok ht a3 a5 a7
  obtain ⟨vs, m1, _⟩ := mo_at hG
  obtain ⟨us, n1, _⟩ := mo_at a3
  have s1 : cOne (calF (Trm 23)) eM165 none (1, [(0, cR 170), (1, cI so)], [cR 170], h) = some (4, [(0, cR 170), (1, cI so)], [], h1) := gh_inv (d := 23) (mi := 222) (N := eM222) (pc := 1) (ls := [(0, cR 170), (1, cI so)]) (st := [cR 170]) (r := none) rfl rfl rfl rfl rfl (by show recC h 12 [cR 170] = true; unfold recC; dsimp only; rw [m1]; rfl) (Trm_le (by decide) t1)
  have s49 : ∀ y : Int32, r = some (cI y) → cOne (calF (Trm 23)) eM165 none (49, coL so A, [cR 170], h2) = some (52, coL so A, [cI y], h3) := fun y hy => by
    subst hy
    exact gh_inv (d := 23) (mi := 247) (N := eM247) (pc := 49) (ls := coL so A) (st := [cR 170]) (r := some (cI y)) rfl rfl rfl rfl rfl (by show recC h2 12 [cR 170] = true; unfold recC; dsimp only; rw [n1]; rfl) b1
  have hF : Fr PT9 kVc h h3 := Fr.tr (W2 := kWa) rfl (Fr.tr (subW_rf kVc) (Fr.tr (W2 := [(170, 14)]) rfl Fr.rf t3) a4) b3
  have pre : ∀ S : cS, Go (calF (Trm 23)) eM165 none (49, coL so A, [cR 170], h2) S → Go (calF (Trm 23)) eM165 none (0, [(0, cR 170), (1, cI so)], [], h) S := fun S hs => Go.step (o_aload_n (i := 0) rfl rfl) (Go.step s1 (a2.trans hs))
  rcases b5 with b5 | ⟨b5, md, dp, L, o, b6, b7⟩
  · obtain ⟨y, y1, y2⟩ := ret_c b5
    have ey : y = 0 := (i32_of y2).trans rfl
    have hd : cDec .ne y 0 = false := by rw [ey]; decide
    refine ⟨some (cI (Int32.ofInt 0)), h3, Trm_succ.mpr ⟨eM165, (56, coL so A, [cI (Int32.ofInt 0)], h3), rfl, Nat.le_of_ble_eq_true rfl, pre _ (Go.step (s49 y y1) (Go.step (o_if_f (t := 57) rfl rfl hd) (Go.step (o_step rfl rfl) Go.rf))), rfl⟩, b2, hF, b4, Or.inl ⟨Int32.ofInt 0, rfl, rfl⟩⟩
  · obtain ⟨y, y1, y2⟩ := ret_c b5
    have ey : y = 1 := (i32_of y2).trans rfl
    have hd : cDec .ne y 0 = true := by rw [ey]; decide
    obtain ⟨md2, b9, o2, f2, g2, gc2, cc2, c1, c2, c3, c4, c5, c6, c7, c8, c9, c10, c11, c12, c13⟩ := a6
    obtain ⟨h4, d1, d2, d3, d4, d5⟩ := co_end (ln := ln) (so := so) ht hcl a1 b2 b4 b7 (Fr_row b3 rfl a8) a9 (Fr_row b3 rfl c10) c12 (fv_keep b3 rfl c3)
    exact ⟨some (cI (Int32.ofInt 1)), h4, Trm_succ.mpr ⟨eM165, (88, coL so A, [cI (Int32.ofInt 1)], h4), rfl, Nat.le_of_ble_eq_true rfl, pre _ (Go.step (s49 y y1) (Go.step (o_if_t (t := 57) rfl rfl hd) d1)), rfl⟩, d2, Fr.tr (subW_rf kVc) hF d3, d4, Or.inr ⟨⟨Int32.ofInt 1, rfl, rfl⟩, d5⟩⟩
