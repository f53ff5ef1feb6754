/-! GHOSTS, 16: the reference's law -/
abbrev kLw : aW := [(170, 1), (170, 2), (170, 14), (170, 15), (170, 16), (170, 17), (170, 18), (170, 19), (170, 20), (170, 22), (172, 1000), (173, 1000), (174, 1000), (175, 1000), (180, 1000)]
theorem law_ok {h : List cC} (hG : HG TT [] h) (hJ : J9 h) : ∃ (r : Int32) (h2 : List cC), Trm 30 212 [cR 170] h (some (cI r)) h2 ∧ HG TT [] h2 ∧ Fr PT9 kLw h h2 ∧ J9 h2 := by
  obtain ⟨vs, m1, m3, m4, m5, m6, m7⟩ := mo_at hG
  have hcl : classes[12]? = some classes[12] := rfl
  obtain ⟨x, z1, z2, z3⟩ := HG_mf hG (j := 2) (b := (0, 6)) rfl
  have z2 : (0 : Int) ≤ x.toInt := z2
  have z3 : x.toInt ≤ (6 : Int) := z3
  obtain ⟨x', x1, x2⟩ := fv_at m1 ⟨x, z1, rfl⟩
  have ex : x' = x := Int32.toInt_inj.mp x2
  subst ex
  have e6 : ((Int8.ofInt 6).toInt32).toInt = 6 := rfl
  by_cases h6 : x'.toInt = 6
  · have hd : cDec .ne x' (Int8.ofInt 6).toInt32 = false := by
      have e : x' = (Int8.ofInt 6).toInt32 := Int32.toInt_inj.mp (by rw [h6, e6])
      rw [e]
      decide
    exact ⟨Int32.ofInt (-1), h, Trm_succ.mpr ⟨eM212, (10, [(0, cR 170)], [cI (Int32.ofInt (-1))], h), rfl, Nat.le_of_ble_eq_true rfl, Go.step (o_aload_n (i := 0) rfl rfl) (Go.step (o_get rfl rfl rfl m1 x1) (Go.step (o_step rfl rfl) (Go.step (o_ic_f (t := 11) rfl rfl hd) (Go.step (o_step rfl rfl) Go.rf)))), rfl⟩, hG, Fr.rf, hJ⟩
  · have hd : cDec .ne x' (Int8.ofInt 6).toInt32 = true := decide_eq_true (fun e => h6 (by rw [e, e6]))
    obtain ⟨t, ht⟩ : ∃ t : Nat, x'.toInt = t := ⟨x'.toInt.toNat, by omega⟩
    have ht6 : t < 6 := by omega
    obtain ⟨w, w1, _⟩ := HG_mf hG (j := 17) (b := (0, 6)) rfl
    obtain ⟨y, y1, _⟩ := fv_at m1 ⟨w, w1, rfl⟩
    have l17 : 17 < vs.length := (List.getElem?_eq_some_iff.mp y1).1
    obtain ⟨cc, r5, c5⟩ := HG_row hG (k := 175) (kd := 0) (n := 6) (d := (0, 12)) rfl
    obtain ⟨gc, r4, _⟩ := HG_row hG (k := 174) (kd := 0) (n := 216) (d := (0, 400)) rfl
    obtain ⟨f, r2, _⟩ := HG_row hG (k := 172) (kd := 0) (n := 2400) (d := (-2147483648, 2147483647)) rfl
    obtain ⟨j1, j2⟩ := in_B (n := 6) ht ht6
    have n1 : (h.set 170 (.inl (12, vs.set 17 (cI x'))))[170]? = some (.inl (12, vs.set 17 (cI x'))) := rw_eq m1
    have n6 : (vs.set 17 (cI x'))[6]? = some (cR 175) := by
      rw [List.getElem?_set_ne (by decide)]
      exact m6
    have n17 : (vs.set 17 (cI x'))[17]? = some (cI x') := List.getElem?_set_self l17
    have n5 : (h.set 170 (.inl (12, vs.set 17 (cI x'))))[175]? = some (.inr (.inl (0, 6, cc))) := rw_ne (by decide) r5
    have g1 : HG TT [] (h.set 170 (.inl (12, vs.set 17 (cI x')))) := HG_mo hG m1 (j := 17) (b := (0, 6)) rfl ⟨by show (0 : Int) ≤ _; omega, by show _ ≤ (6 : Int); omega⟩
    have s28 : ∀ (ls : List (Nat × cV)) (st : List cV), cOne (calF (Trm 29)) eM212 none (28, ls, cI (Int32.ofInt 0) :: cI x' :: cR 175 :: st, h.set 170 (.inl (12, vs.set 17 (cI x')))) = some (29, ls, st, (h.set 170 (.inl (12, vs.set 17 (cI x')))).set 175 (.inr (.inl (0, 6, upd cc t (Int32.ofInt 0))))) := fun ls st => by
      have := o_iast (call := calF (Trm 29)) (M := eM212) (sc := none) (pc := 28) (ls := ls) (st := st) (x := Int32.ofInt 0) rfl n5 j1
      rw [j2] at this
      exact this
    have g2 : HG TT [] ((h.set 170 (.inl (12, vs.set 17 (cI x')))).set 175 (.inr (.inl (0, 6, upd cc t (Int32.ofInt 0))))) := HG_175 g1 n5 (by decide) (by decide)
    have F2 : Fr PT9 kLw h ((h.set 170 (.inl (12, vs.set 17 (cI x')))).set 175 (.inr (.inl (0, 6, upd cc t (Int32.ofInt 0))))) := Fr_rw (Fr_mo Fr.rf m1 rfl) n5 rfl rfl
    have J2 : J9 ((h.set 170 (.inl (12, vs.set 17 (cI x')))).set 175 (.inr (.inl (0, 6, upd cc t (Int32.ofInt 0))))) := by
      refine ⟨JL_row hJ.1 (fun k hk => by rw [List.getElem?_set_ne (Ne.symm (lawK_n hk).2.1), List.getElem?_set_ne (Ne.symm (lawK_n hk).2.2.2)]), ?_⟩
      intro f3 g3 c3 e1 e2 e3 t' j ht' hj hc
      rw [List.getElem?_set_ne (by decide), List.getElem?_set_ne (by decide), r2] at e1
      rw [List.getElem?_set_ne (by decide), List.getElem?_set_ne (by decide), r4] at e2
      rw [List.getElem?_set_self (List.getElem?_eq_some_iff.mp n5).1] at e3
      cases e1
      cases e2
      cases e3
      by_cases e : t' = t
      · subst e
        rw [pk_us] at hc
        have : (Int32.ofInt 0).toInt = 0 := rfl
        omega
      · rw [pk_un e] at hc
        exact hJ.2 f gc cc r2 r4 r5 t' j ht' hj hc
    have v17 : fv ((h.set 170 (.inl (12, vs.set 17 (cI x')))).set 175 (.inr (.inl (0, 6, upd cc t (Int32.ofInt 0))))) 17 (t : Nat) := by
      have := fv_row (k := 175) (c := .inr (.inl (0, 6, upd cc t (Int32.ofInt 0)))) (by decide) (fv_eq m1 l17 x')
      rw [ht] at this
      exact this
    have v2 : fv ((h.set 170 (.inl (12, vs.set 17 (cI x')))).set 175 (.inr (.inl (0, 6, upd cc t (Int32.ofInt 0))))) 2 (t : Nat) := by
      have := fv_row (k := 175) (c := .inr (.inl (0, 6, upd cc t (Int32.ofInt 0)))) (by decide) (fv_ne m1 (i := 17) (v := cI x') (by decide) (fv_of m1 x1))
      rw [ht] at this
      exact this
    have n9 : ((h.set 170 (.inl (12, vs.set 17 (cI x')))).set 175 (.inr (.inl (0, 6, upd cc t (Int32.ofInt 0)))))[170]? = some (.inl (12, vs.set 17 (cI x'))) := rw_ne (by decide) n1
    have r9 : ((h.set 170 (.inl (12, vs.set 17 (cI x')))).set 175 (.inr (.inl (0, 6, upd cc t (Int32.ofInt 0)))))[175]? = some (.inr (.inl (0, 6, upd cc t (Int32.ofInt 0)))) := rw_eq n5
    have pre : ∀ S : cS, Go (calF (Trm 29)) eM212 none (30, [(0, cR 170)], [cR 170], (h.set 170 (.inl (12, vs.set 17 (cI x')))).set 175 (.inr (.inl (0, 6, upd cc t (Int32.ofInt 0))))) S → Go (calF (Trm 29)) eM212 none (0, [(0, cR 170)], [], h) S := fun S hs => Go.step (o_aload_n (i := 0) rfl rfl) (Go.step (o_get rfl rfl rfl m1 x1) (Go.step (o_step rfl rfl) (Go.step (o_ic_t (t := 11) rfl rfl hd) (Go.step (o_aload_n (i := 0) rfl rfl) (Go.step (o_aload_n (i := 0) rfl rfl) (Go.step (o_get rfl rfl rfl m1 x1) (Go.step (o_put rfl rfl rfl m1 y1 hcl rfl rfl) (Go.step (o_aload_n (i := 0) rfl rfl) (Go.step (o_get rfl rfl rfl n1 n6) (Go.step (o_aload_n (i := 0) rfl rfl) (Go.step (o_get rfl rfl rfl n1 n17) (Go.step (o_step rfl rfl) (Go.step (s28 _ _) (Go.step (o_aload_n (i := 0) rfl rfl) hs))))))))))))))
    obtain ⟨r, h3, t1, t2, t3, t4, t5⟩ := ra_ok ht6 g2 J2 ⟨v17, _, r9, by rw [pk_us]; rfl⟩
    have s30 : cOne (calF (Trm 29)) eM212 none (30, [(0, cR 170)], [cR 170], (h.set 170 (.inl (12, vs.set 17 (cI x')))).set 175 (.inr (.inl (0, 6, upd cc t (Int32.ofInt 0))))) = some (33, [(0, cR 170)], [cI r], h3) := gh_inv (d := 29) (mi := 228) (N := eM228) (pc := 30) (ls := [(0, cR 170)]) (st := [cR 170]) (r := some (cI r)) rfl rfl rfl rfl rfl (by show recC _ 12 [cR 170] = true; unfold recC; dsimp only; rw [n9]; rfl) t1
    have F3 : Fr PT9 kLw h h3 := Fr.tr (W2 := kRa) rfl F2 t3
    obtain ⟨us, q1, q3, q4, q5, q6, q7⟩ := mo_at t2
    rcases t5 with t5 | t5
    · have er : r = 0 := (i32_of t5).trans rfl
      have hd2 : cDec .ne r 0 = false := by rw [er]; decide
      obtain ⟨v, v1, _⟩ := HG_mf t2 (j := 15) (b := (-2147483648, 2147483647)) rfl
      obtain ⟨v', v3, _⟩ := fv_at q1 ⟨v, v1, rfl⟩
      exact ⟨_, h3, Trm_succ.mpr ⟨eM212, (43, [(0, cR 170)], [cI ((Int8.ofInt (-2)).toInt32 - v')], h3), rfl, Nat.le_of_ble_eq_true rfl, pre _ (Go.step s30 (Go.step (o_if_f (t := 44) rfl rfl hd2) (Go.step (o_step rfl rfl) (Go.step (o_aload_n (i := 0) rfl rfl) (Go.step (o_get rfl rfl rfl q1 v3) (Go.step (o_step rfl rfl) Go.rf)))))), rfl⟩, t2, F3, t4⟩
    · have er : r = 1 := (i32_of t5).trans rfl
      have hd2 : cDec .ne r 0 = true := by rw [er]; decide
      obtain ⟨v, v1, v3⟩ := fv_at q1 (fv_keep t3 rfl v2)
      have l2 : 2 < us.length := (List.getElem?_eq_some_iff.mp v1).1
      have hv1 : (v + Int32.ofInt 1).toInt = ((t + 1 : Nat) : Int) := by
        rw [i32_add (by rw [one_i]; omega) (by rw [one_i]; omega), one_i]
        omega
      have u1 : (h3.set 170 (.inl (12, us.set 2 (cI (v + Int32.ofInt 1)))))[170]? = some (.inl (12, us.set 2 (cI (v + Int32.ofInt 1)))) := rw_eq q1
      have u2 : (us.set 2 (cI (v + Int32.ofInt 1)))[2]? = some (cI (v + Int32.ofInt 1)) := List.getElem?_set_self l2
      have g3 : HG TT [] (h3.set 170 (.inl (12, us.set 2 (cI (v + Int32.ofInt 1))))) := HG_mo t2 q1 (j := 2) (b := (0, 6)) rfl ⟨by show (0 : Int) ≤ _; omega, by show _ ≤ (6 : Int); omega⟩
      exact ⟨_, h3.set 170 (.inl (12, us.set 2 (cI (v + Int32.ofInt 1)))), Trm_succ.mpr ⟨eM212, (60, [(0, cR 170)], [cI (v + Int32.ofInt 1 - Int32.ofInt 1)], _), rfl, Nat.le_of_ble_eq_true rfl, pre _ (Go.step s30 (Go.step (o_if_t (t := 44) rfl rfl hd2) (Go.step (o_aload_n (i := 0) rfl rfl) (Go.step (o_step rfl rfl) (Go.step (o_get rfl rfl rfl q1 v1) (Go.step (o_step rfl rfl) (Go.step (o_step rfl rfl) (Go.step (o_put rfl rfl rfl q1 v1 hcl rfl rfl) (Go.step (o_aload_n (i := 0) rfl rfl) (Go.step (o_get rfl rfl rfl u1 u2) (Go.step (o_step rfl rfl) (Go.step (o_step rfl rfl) Go.rf)))))))))))), rfl⟩, g3, Fr_mo F3 q1 rfl, J9_mo t4⟩
theorem ow_law : owLaw := fun h hi as hl => by
  have e : as = [] := List.length_eq_zero_iff.mp hl
  subst e
  obtain ⟨r, h2, t1, t2, t3, t4⟩ := law_ok hi.1 hi.2.1.2.1
  exact ⟨r, h2, Trm_le (by decide) t1, t2, INV_keep hi.2.1 t2 t4 t3 rfl, NSh_sm hi.1 (SM_of t3 rfl rfl) hi.2.2⟩
