/-! THE WAY, 10: takesTalks -/
abbrev ttW : aW := [(170, 31), (184, 1000), (185, 1000), (186, 1000), (187, 1000)]
theorem HG_rw {h : List cC} {k kd n : Nat} {d : eP} {f : Nat → Int32} (hG : HG TT [] h) (hT : TT[k]? = some (.inr (.inl (kd, n, d, [])))) (hk : h[k]? = some (.inr (.inl (kd, n, f)))) {i : Nat} {x : Int32} (hx : bt2 d x.toInt) : HG TT [] (h.set k (.inr (.inl (kd, n, upd f i x)))) := HG_putI (gs := []) (f := f) (i := i) (x := x) hG hT hk hx (fun q hq => by cases hq) (fun j => by
  by_cases hj : j = i
  · exact Or.inr ⟨hj, by rw [hj, pk_us]⟩
  · exact Or.inl (pk_un hj))
theorem J9_rw {h : List cC} {k : Nat} {c : cC} (hJ : J9 h) (hk : noI IR9 k = true) : J9 (h.set k c) := J9_ok h _ (fun j hj => List.getElem?_set_ne (Ne.symm (noI_ok hk j hj))) hJ
theorem Fr_kd {W : aW} {h0 h : List cC} {k kd n : Nat} {f f2 : Nat → Int32} (hf : Fr PT9 W h0 h) (hk : h[k]? = some (.inr (.inl (kd, n, f)))) (hw : inW W k 1000 = true) (hp : pNo PT9 k = true) : Fr PT9 W h0 (h.set k (.inr (.inl (kd, n, f2)))) := hf.set hk ⟨_, rfl, fun z => inW_ne hw z, pNo_stay hp _ _⟩
theorem sa_t {f : Nat → Int32} (hr : rI 230 (-2147483648, 2147483647) saST f) {T : Nat} (hT : T < 30) : (0 ≤ (f (80 + 3 * T)).toInt ∧ (f (80 + 3 * T)).toInt ≤ 9) ∧ (0 ≤ (f (80 + 3 * T + 1)).toInt ∧ (f (80 + 3 * T + 1)).toInt ≤ 9) ∧ (0 ≤ (f (80 + 3 * T + 2)).toInt ∧ (f (80 + 3 * T + 2)).toInt ≤ 99) := by
  have h1 := (hr (80 + 3 * T) (by omega)).2 (80, 3, 30, (0, 9)) (by decide) ⟨T, hT, rfl⟩
  have h2 := (hr (80 + 3 * T + 1) (by omega)).2 (81, 3, 30, (0, 9)) (by decide) ⟨T, hT, by show 80 + 3 * T + 1 = 81 + 3 * T; omega⟩
  have h3 := (hr (80 + 3 * T + 2) (by omega)).2 (82, 3, 30, (0, 99)) (by decide) ⟨T, hT, by show 80 + 3 * T + 2 = 82 + 3 * T; omega⟩
  exact ⟨h1, h2, h3⟩
theorem tt_loop {f : Nat → Int32} (hf : rI 230 (-2147483648, 2147483647) saST f) {mn : Nat} (hmn : mn ≤ 30) : ∀ (n T : Nat) (i : Int32) (h : List cC), T + n = mn → i.toInt = T → HG TT [] h → J9 h → h[183]? = some (.inr (.inl (0, 230, f))) → fv h 31 mn → (∃ fw fm : Nat → Int32, h[184]? = some (.inr (.inl (0, 31, fw))) ∧ h[185]? = some (.inr (.inl (0, 31, fm))) ∧ ∀ t : Nat, t < T → fw t = f (80 + 3 * t) ∧ fm t = f (80 + 3 * t + 1)) → ∃ (ls2 : List (Nat × cV)) (h2 : List cC), Go (calF (Trm 0)) eM241 none (12, [(1, cI i), (0, cR 170)], [], h) (88, ls2, [], h2) ∧ HG TT [] h2 ∧ Fr PT9 ttW h h2 ∧ J9 h2 ∧ h2[183]? = some (.inr (.inl (0, 230, f))) ∧ fv h2 31 mn ∧ ∃ fw fm : Nat → Int32, h2[184]? = some (.inr (.inl (0, 31, fw))) ∧ h2[185]? = some (.inr (.inl (0, 31, fm))) ∧ ∀ t : Nat, t < mn → fw t = f (80 + 3 * t) ∧ fm t = f (80 + 3 * t + 1)
  | 0, T, i, h, hT, hi, hG, hJ, r3, k31, hr => by
    obtain ⟨vs, m1, _⟩ := mo_at hG
    obtain ⟨x, x1, x2⟩ := fv_at m1 k31
    have hd : cDec .ge i x = true := decide_eq_true (Int32.le_iff_toInt_le.mpr (by omega))
    have e : T = mn := by omega
    subst e
    exact ⟨_, h, Go.step (o_iload_n (i := 1) rfl rfl) (Go.step (o_aload_n (i := 0) rfl rfl) (Go.step (o_get rfl rfl rfl m1 x1) (Go.step (o_ic_t (t := 88) rfl rfl hd) Go.rf))), hG, Fr.rf, hJ, r3, k31, hr⟩
  | n + 1, T, i, h, hT, hi, hG, hJ, r3, k31, ⟨fw, fm, r4, r5, hr⟩ => by
    obtain ⟨vs, m1, _⟩ := mo_at hG
    obtain ⟨x, x1, x2⟩ := fv_at m1 k31
    have hd : cDec .ge i x = false := decide_eq_false (fun z => by have := Int32.le_iff_toInt_le.mp z; omega)
    have m26 := mo_sa hG m1
    have m27 := mo_j hG m1 (j := 27) (k := 184) rfl
    have m28 := mo_j hG m1 (j := 28) (k := 185) rfl
    have m29 := mo_j hG m1 (j := 29) (k := 186) rfl
    have m30 := mo_j hG m1 (j := 30) (k := 187) rfl
    obtain ⟨fn, r6, _⟩ := HG_row hG (k := 186) (kd := 0) (n := 31) (d := (0, 99)) rfl
    obtain ⟨fu, r7, _⟩ := HG_row hG (k := 187) (kd := 2) (n := 31) (d := (0, 1)) rfl
    obtain ⟨⟨p1, p2⟩, ⟨p3, p4⟩, p5, p6⟩ := sa_t hf (T := T) (by omega)
    have e80 : ((Int8.ofInt 80).toInt32).toInt = 80 := rfl
    have e3 : (Int32.ofInt 3).toInt = 3 := rfl
    have e2 : (Int32.ofInt 2).toInt = 2 := rfl
    have a1 : (Int32.ofInt 3 * i).toInt = 3 * i.toInt := by rw [i32_mul (by rw [e3]; omega) (by rw [e3]; omega), e3]
    have a2 : ((Int8.ofInt 80).toInt32 + Int32.ofInt 3 * i).toInt = ((80 + 3 * T : Nat) : Int) := by
      rw [i32_add (by rw [e80]; omega) (by rw [e80]; omega), e80]
      omega
    have a3 : ((Int8.ofInt 80).toInt32 + Int32.ofInt 3 * i + Int32.ofInt 1).toInt = ((80 + 3 * T + 1 : Nat) : Int) := by
      rw [i32_add (by rw [one_i]; omega) (by rw [one_i]; omega), one_i]
      omega
    have a4 : ((Int8.ofInt 80).toInt32 + Int32.ofInt 3 * i + Int32.ofInt 2).toInt = ((80 + 3 * T + 2 : Nat) : Int) := by
      rw [i32_add (by rw [e2]; omega) (by rw [e2]; omega), e2]
      omega
    obtain ⟨b1, b2⟩ := in_B (n := 230) a2 (by omega)
    obtain ⟨b3, b4⟩ := in_B (n := 230) a3 (by omega)
    obtain ⟨b5, b6⟩ := in_B (n := 230) a4 (by omega)
    obtain ⟨i1, i2⟩ := in_B (n := 31) hi (by omega)
    have s35 : ∀ (ls : List (Nat × cV)) (st : List cV), cOne (calF (Trm 0)) eM241 none (35, ls, cI ((Int8.ofInt 80).toInt32 + Int32.ofInt 3 * i) :: cR 183 :: st, h) = some (36, ls, cI (f (80 + 3 * T)) :: st, h) := fun ls st => by
      have := o_iald (call := calF (Trm 0)) (M := eM241) (sc := none) (pc := 35) (ls := ls) (st := st) rfl r3 b1
      rw [b2] at this
      exact this
    have s36 : ∀ (ls : List (Nat × cV)) (st : List cV) (y : Int32), cOne (calF (Trm 0)) eM241 none (36, ls, cI y :: cI i :: cR 184 :: st, h) = some (37, ls, st, h.set 184 (.inr (.inl (0, 31, upd fw T y)))) := fun ls st y => by
      have := o_iast (call := calF (Trm 0)) (M := eM241) (sc := none) (pc := 36) (ls := ls) (st := st) (x := y) rfl r4 i1
      rw [i2] at this
      exact this
    have g1 : HG TT [] (h.set 184 (.inr (.inl (0, 31, upd fw T (f (80 + 3 * T)))))) := HG_rw hG (d := (0, 9)) rfl r4 ⟨p1, p2⟩
    have q1 : ∀ (k : Nat) (c : cC), k ≠ 184 → h[k]? = some c → (h.set 184 (.inr (.inl (0, 31, upd fw T (f (80 + 3 * T))))))[k]? = some c := fun k c hk hh => rw_ne (Ne.symm hk) hh
    have J1 : J9 (h.set 184 (.inr (.inl (0, 31, upd fw T (f (80 + 3 * T)))))) := J9_rw hJ rfl
    have F1 : Fr PT9 ttW h (h.set 184 (.inr (.inl (0, 31, upd fw T (f (80 + 3 * T)))))) := Fr_kd Fr.rf r4 rfl rfl
    have u4 : (h.set 184 (.inr (.inl (0, 31, upd fw T (f (80 + 3 * T))))))[184]? = some (.inr (.inl (0, 31, upd fw T (f (80 + 3 * T))))) := rw_eq r4
    have v31 : fv (h.set 184 (.inr (.inl (0, 31, upd fw T (f (80 + 3 * T)))))) 31 mn := fv_row (by decide) k31
    have pre : ∀ S : cS, Go (calF (Trm 0)) eM241 none (37, [(1, cI i), (0, cR 170)], [], h.set 184 (.inr (.inl (0, 31, upd fw T (f (80 + 3 * T)))))) S → Go (calF (Trm 0)) eM241 none (12, [(1, cI i), (0, cR 170)], [], h) S := fun S hs => Go.step (o_iload_n (i := 1) rfl rfl) (Go.step (o_aload_n (i := 0) rfl rfl) (Go.step (o_get rfl rfl rfl m1 x1) (Go.step (o_ic_f (t := 88) rfl rfl hd) (Go.step (o_aload_n (i := 0) rfl rfl) (Go.step (o_get rfl rfl rfl m1 m27) (Go.step (o_iload_n (i := 1) rfl rfl) (Go.step (o_aload_n (i := 0) rfl rfl) (Go.step (o_get rfl rfl rfl m1 m26) (Go.step (o_step rfl rfl) (Go.step (o_step rfl rfl) (Go.step (o_iload_n (i := 1) rfl rfl) (Go.step (o_step rfl rfl) (Go.step (o_step rfl rfl) (Go.step (s35 _ _) (Go.step (s36 _ _ _) hs)))))))))))))))
    generalize h.set 184 (.inr (.inl (0, 31, upd fw T (f (80 + 3 * T))))) = h1 at g1 q1 J1 F1 u4 v31 pre
    have s54 : ∀ (ls : List (Nat × cV)) (st : List cV), cOne (calF (Trm 0)) eM241 none (54, ls, cI ((Int8.ofInt 80).toInt32 + Int32.ofInt 3 * i + Int32.ofInt 1) :: cR 183 :: st, h1) = some (55, ls, cI (f (80 + 3 * T + 1)) :: st, h1) := fun ls st => by
      have := o_iald (call := calF (Trm 0)) (M := eM241) (sc := none) (pc := 54) (ls := ls) (st := st) rfl (q1 183 _ (by decide) r3) b3
      rw [b4] at this
      exact this
    have s55 : ∀ (ls : List (Nat × cV)) (st : List cV) (y : Int32), cOne (calF (Trm 0)) eM241 none (55, ls, cI y :: cI i :: cR 185 :: st, h1) = some (56, ls, st, h1.set 185 (.inr (.inl (0, 31, upd fm T y)))) := fun ls st y => by
      have := o_iast (call := calF (Trm 0)) (M := eM241) (sc := none) (pc := 55) (ls := ls) (st := st) (x := y) rfl (q1 185 _ (by decide) r5) i1
      rw [i2] at this
      exact this
    have n1 := q1 170 _ (by decide) m1
    have g2 : HG TT [] (h1.set 185 (.inr (.inl (0, 31, upd fm T (f (80 + 3 * T + 1)))))) := HG_rw g1 (d := (0, 9)) rfl (q1 185 _ (by decide) r5) ⟨p3, p4⟩
    have J2 : J9 (h1.set 185 (.inr (.inl (0, 31, upd fm T (f (80 + 3 * T + 1)))))) := J9_rw J1 rfl
    have F2 : Fr PT9 ttW h (h1.set 185 (.inr (.inl (0, 31, upd fm T (f (80 + 3 * T + 1)))))) := Fr_kd F1 (q1 185 _ (by decide) r5) rfl rfl
    have q2 : ∀ (k : Nat) (c : cC), k ≠ 185 → h1[k]? = some c → (h1.set 185 (.inr (.inl (0, 31, upd fm T (f (80 + 3 * T + 1))))))[k]? = some c := fun k c hk hh => rw_ne (Ne.symm hk) hh
    have u5 : (h1.set 185 (.inr (.inl (0, 31, upd fm T (f (80 + 3 * T + 1))))))[185]? = some (.inr (.inl (0, 31, upd fm T (f (80 + 3 * T + 1))))) := rw_eq (q1 185 _ (by decide) r5)
    have w31 : fv (h1.set 185 (.inr (.inl (0, 31, upd fm T (f (80 + 3 * T + 1)))))) 31 mn := fv_row (by decide) v31
    have pre2 : ∀ S : cS, Go (calF (Trm 0)) eM241 none (56, [(1, cI i), (0, cR 170)], [], h1.set 185 (.inr (.inl (0, 31, upd fm T (f (80 + 3 * T + 1)))))) S → Go (calF (Trm 0)) eM241 none (12, [(1, cI i), (0, cR 170)], [], h) S := fun S hs => pre _ (Go.step (o_aload_n (i := 0) rfl rfl) (Go.step (o_get rfl rfl rfl n1 m28) (Go.step (o_iload_n (i := 1) rfl rfl) (Go.step (o_aload_n (i := 0) rfl rfl) (Go.step (o_get rfl rfl rfl n1 m26) (Go.step (o_step rfl rfl) (Go.step (o_step rfl rfl) (Go.step (o_iload_n (i := 1) rfl rfl) (Go.step (o_step rfl rfl) (Go.step (o_step rfl rfl) (Go.step (o_step rfl rfl) (Go.step (o_step rfl rfl) (Go.step (s54 _ _) (Go.step (s55 _ _ _) hs))))))))))))))
    generalize h1.set 185 (.inr (.inl (0, 31, upd fm T (f (80 + 3 * T + 1))))) = h2 at g2 J2 F2 q2 u5 w31 pre2
    have t183 := q2 183 _ (by decide) (q1 183 _ (by decide) r3)
    have t186 := q2 186 _ (by decide) (q1 186 _ (by decide) r6)
    have t187 := q2 187 _ (by decide) (q1 187 _ (by decide) r7)
    have t184 := q2 184 _ (by decide) u4
    have n2 := q2 170 _ (by decide) n1
    have s73 : ∀ (ls : List (Nat × cV)) (st : List cV), cOne (calF (Trm 0)) eM241 none (73, ls, cI ((Int8.ofInt 80).toInt32 + Int32.ofInt 3 * i + Int32.ofInt 2) :: cR 183 :: st, h2) = some (74, ls, cI (f (80 + 3 * T + 2)) :: st, h2) := fun ls st => by
      have := o_iald (call := calF (Trm 0)) (M := eM241) (sc := none) (pc := 73) (ls := ls) (st := st) rfl t183 b5
      rw [b6] at this
      exact this
    have s74 : ∀ (ls : List (Nat × cV)) (st : List cV) (y : Int32), cOne (calF (Trm 0)) eM241 none (74, ls, cI y :: cI i :: cR 186 :: st, h2) = some (75, ls, st, h2.set 186 (.inr (.inl (0, 31, upd fn T y)))) := fun ls st y => by
      have := o_iast (call := calF (Trm 0)) (M := eM241) (sc := none) (pc := 74) (ls := ls) (st := st) (x := y) rfl t186 i1
      rw [i2] at this
      exact this
    have hb : vp_nar .boolean (Int32.ofInt 0) = Int32.ofInt 0 := rfl
    have n3 : (h2.set 186 (.inr (.inl (0, 31, upd fn T (f (80 + 3 * T + 2))))))[170]? = some (.inl (12, vs)) := rw_ne (by decide) n2
    have t187' : (h2.set 186 (.inr (.inl (0, 31, upd fn T (f (80 + 3 * T + 2))))))[187]? = some (.inr (.inl (2, 31, fu))) := rw_ne (by decide) t187
    have s81 : ∀ (ls : List (Nat × cV)) (st : List cV), cOne (calF (Trm 0)) eM241 none (81, ls, cI (Int32.ofInt 0) :: cI i :: cR 187 :: st, h2.set 186 (.inr (.inl (0, 31, upd fn T (f (80 + 3 * T + 2)))))) = some (82, ls, st, (h2.set 186 (.inr (.inl (0, 31, upd fn T (f (80 + 3 * T + 2)))))).set 187 (.inr (.inl (2, 31, upd fu T (Int32.ofInt 0))))) := fun ls st => by
      have := o_bast2 (call := calF (Trm 0)) (M := eM241) (pc := 81) (ls := ls) (st := st) (x := Int32.ofInt 0) rfl t187' i1
      rw [i2, hb] at this
      exact this
    have hi1 : (i + Int32.ofInt 1).toInt = ((T + 1 : Nat) : Int) := by
      rw [i32_add (by rw [one_i]; omega) (by rw [one_i]; omega), one_i]
      omega
    have s82 : ∀ hh : List cC, cOne (calF (Trm 0)) eM241 none (82, [(1, cI i), (0, cR 170)], [], hh) = some (85, [(1, cI (i + Int32.ofInt 1)), (0, cR 170)], [], hh) := fun hh => o_step (ins := .iinc 1 1) (len := 3) rfl rfl
    obtain ⟨ls9, h9, z1, z2, z3, z4, z5⟩ := tt_loop hf hmn n (T + 1) (i + Int32.ofInt 1) ((h2.set 186 (.inr (.inl (0, 31, upd fn T (f (80 + 3 * T + 2)))))).set 187 (.inr (.inl (2, 31, upd fu T (Int32.ofInt 0))))) (by omega) hi1 (HG_rw (HG_rw g2 (d := (0, 99)) rfl t186 ⟨p5, p6⟩) (d := (0, 1)) rfl t187' ⟨by decide, by decide⟩) (J9_rw (J9_rw J2 rfl) rfl) (rw_ne (by decide) (rw_ne (by decide) t183)) (fv_row (by decide) (fv_row (by decide) w31)) ⟨_, _, rw_ne (by decide) (rw_ne (by decide) t184), rw_ne (by decide) (rw_ne (by decide) u5), fun t ht => by
      by_cases e : t = T
      · subst e
        rw [pk_us, pk_us]
        exact ⟨rfl, rfl⟩
      · rw [pk_un e, pk_un e]
        exact hr t (by omega)⟩
    exact ⟨ls9, h9, pre2 _ (Go.step (o_aload_n (i := 0) rfl rfl) (Go.step (o_get rfl rfl rfl n2 m29) (Go.step (o_iload_n (i := 1) rfl rfl) (Go.step (o_aload_n (i := 0) rfl rfl) (Go.step (o_get rfl rfl rfl n2 m26) (Go.step (o_step rfl rfl) (Go.step (o_step rfl rfl) (Go.step (o_iload_n (i := 1) rfl rfl) (Go.step (o_step rfl rfl) (Go.step (o_step rfl rfl) (Go.step (o_step rfl rfl) (Go.step (o_step rfl rfl) (Go.step (s73 _ _) (Go.step (s74 _ _ _) (Go.step (o_aload_n (i := 0) rfl rfl) (Go.step (o_get rfl rfl rfl n3 m30) (Go.step (o_iload_n (i := 1) rfl rfl) (Go.step (o_step rfl rfl) (Go.step (s81 _ _) (Go.step (s82 _) (Go.step (o_step rfl rfl) z1))))))))))))))))))))), z2, Fr.tr (subW_rf ttW) (Fr_kd (Fr_kd F2 t186 rfl rfl) t187' rfl rfl) z3, z4, z5⟩
