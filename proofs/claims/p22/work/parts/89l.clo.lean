/-! GHOSTS, 12: a clause of a LAW -/
abbrev kVc : aW := [(170, 14), (170, 15), (170, 16), (170, 18), (170, 19), (170, 22), (172, 1000), (173, 1000), (174, 1000), (175, 1000), (180, 1000)]
/-- between the clauses: cl of them are read, ln lines -/
def KCx (t cl ln : Nat) (h : List cC) : Prop := ∃ (md b : Nat) (o f g gc cc : Nat → Int32), fv h 17 t ∧ fv h 18 md ∧ fv h 20 ln ∧ md ≤ 60 ∧ (b : Int) ≤ 5 * md ∧ h[180]? = some (.inr (.inl (0, 400, o))) ∧ h[172]? = some (.inr (.inl (0, 2400, f))) ∧ h[173]? = some (.inr (.inl (0, 7, g))) ∧ h[174]? = some (.inr (.inl (0, 216, gc))) ∧ h[175]? = some (.inr (.inl (0, 6, cc))) ∧ (g t).toInt = b ∧ (cc t).toInt = cl ∧ ∀ j : Nat, j < 12 → (j : Int) < (cc t).toInt → (gc (36 * t + 3 * j + 2)).toInt ≤ b
theorem KCx_keep {W : aW} {t cl ln : Nat} {h h2 : List cC} (hf : Fr PT9 W h h2) (hw : inW W 170 17 = false ∧ inW W 170 18 = false ∧ inW W 170 20 = false ∧ inW W 180 1000 = false ∧ inW W 172 1000 = false ∧ inW W 173 1000 = false ∧ inW W 174 1000 = false ∧ inW W 175 1000 = false) (hk : KCx t cl ln h) : KCx t cl ln h2 := by
  obtain ⟨w1, w2, w3, w4, w5, w6, w7, w8⟩ := hw
  obtain ⟨md, b, o, f, g, gc, cc, k1, k2, k3, k4, k5, k6, k7, k8, k9, k10, k11⟩ := hk
  exact ⟨md, b, o, f, g, gc, cc, fv_keep hf w1 k1, fv_keep hf w2 k2, fv_keep hf w3 k3, k4, k5, Fr_row hf w4 k6, Fr_row hf w5 k7, Fr_row hf w6 k8, Fr_row hf w7 k9, Fr_row hf w8 k10, k11⟩
theorem pw_ok {h : List cC} (hG : HG TT [] h) (hJ : J9 h) : ∃ h2 : List cC, Trm 2 222 [cR 170] h none h2 ∧ HG TT [] h2 ∧ Fr PT9 [(170, 14)] h h2 ∧ J9 h2 := by
  obtain ⟨x, x1, x2, x3⟩ := HG_mf hG (j := 14) (b := (0, 400)) rfl
  obtain ⟨y, y1, y2, y3⟩ := HG_mf hG (j := 1) (b := (0, 400)) rfl
  obtain ⟨cx, vx, a1, a2⟩ := fI_inv x1
  obtain ⟨cy, vy, b1, b2⟩ := fI_inv y1
  obtain ⟨r, h2, t1, t2, t3, t4, o, o1, ρ', o2, o3, o4, o5, o6⟩ := zt158 [x.toInt, y.toInt] [cR 170] h hG (bcons ⟨x2, x3⟩ (bcons ⟨y2, y3⟩ bnil)) (fun q hq => by cases hq) ⟨⟨170, List.mem_singleton.mpr rfl, rfl⟩, trivial⟩ (fun q hq => by
    rcases List.mem_cons.mp hq with e | hq
    · subst e
      exact ⟨cx, vx, cI x, a1, a2, vxs rfl⟩
    · have e := List.mem_singleton.mp hq
      subst e
      exact ⟨cy, vy, cI y, b1, b2, vxs rfl⟩) hJ
  have e := List.mem_singleton.mp o1
  subst e
  cases r with
  | none => exact ⟨h2, t1, t2, t3, t4⟩
  | some v => exact o6.elim
theorem WFs_cl {h h2 : List cC} {f gc gc2 cc : Nat → Int32} (hw : WFs h) (r1 : h[172]? = some (.inr (.inl (0, 2400, f)))) (r2 : h[174]? = some (.inr (.inl (0, 216, gc)))) (r3 : h[175]? = some (.inr (.inl (0, 6, cc)))) (q1 : h2[172]? = some (.inr (.inl (0, 2400, f)))) (q2 : h2[174]? = some (.inr (.inl (0, 216, gc2)))) (q3 : h2[175]? = some (.inr (.inl (0, 6, cc)))) (hg : ∀ t j : Nat, t < 6 → j < 12 → (j : Int) < (cc t).toInt → gc2 (36 * t + 3 * j + 1) = gc (36 * t + 3 * j + 1) ∧ gc2 (36 * t + 3 * j + 2) = gc (36 * t + 3 * j + 2)) : WFs h2 := by
  intro f3 g3 c3 e1 e2 e3 t' j ht' hj hc
  rw [q1] at e1
  rw [q2] at e2
  rw [q3] at e3
  cases e1
  cases e2
  cases e3
  obtain ⟨g1, g2⟩ := hg t' j ht' hj hc
  rw [g1, g2]
  exact hw f gc cc r1 r2 r3 t' j ht' hj hc
theorem JL_row {h h2 : List cC} (hJ : JL h) (hs : ∀ k ∈ lawK, h2[k + 1]? = h[k + 1]?) : JL h2 := fun k hk kd n f hf => hJ k hk kd n f (by rw [← hs k hk]; exact hf)
theorem lawK_n {k : Nat} (hk : k ∈ lawK) : k + 1 ≠ 174 ∧ k + 1 ≠ 175 ∧ k + 1 ≠ 173 ∧ k + 1 ≠ 170 := by
  unfold lawK at hk
  simp only [List.mem_cons, List.not_mem_nil, or_false] at hk
  omega
theorem HG_174 {h : List cC} {gc : Nat → Int32} (hG : HG TT [] h) (hk : h[174]? = some (.inr (.inl (0, 216, gc)))) {i : Nat} {x : Int32} (h0 : 0 ≤ x.toInt) (h4 : x.toInt ≤ 400) : HG TT [] (h.set 174 (.inr (.inl (0, 216, upd gc i x)))) := HG_putI (k := 174) (kd := 0) (n := 216) (d := (0, 400)) (gs := []) (f := gc) (i := i) (x := x) hG rfl hk ⟨h0, h4⟩ (fun q hq => by cases hq) (fun j => by
  by_cases hj : j = i
  · exact Or.inr ⟨hj, by rw [hj, pk_us]⟩
  · exact Or.inl (pk_un hj))
theorem HG_175 {h : List cC} {cc : Nat → Int32} (hG : HG TT [] h) (hk : h[175]? = some (.inr (.inl (0, 6, cc)))) {i : Nat} {x : Int32} (h0 : 0 ≤ x.toInt) (h4 : x.toInt ≤ 12) : HG TT [] (h.set 175 (.inr (.inl (0, 6, upd cc i x)))) := HG_putI (k := 175) (kd := 0) (n := 6) (d := (0, 12)) (gs := []) (f := cc) (i := i) (x := x) hG rfl hk ⟨h0, h4⟩ (fun q hq => by cases hq) (fun j => by
  by_cases hj : j = i
  · exact Or.inr ⟨hj, by rw [hj, pk_us]⟩
  · exact Or.inl (pk_un hj))
theorem Fr_rw {W : aW} {h0 h : List cC} {k n : Nat} {f f2 : Nat → Int32} (hf : Fr PT9 W h0 h) (hk : h[k]? = some (.inr (.inl (0, n, f)))) (hw : inW W k 1000 = true) (hp : pNo PT9 k = true) : Fr PT9 W h0 (h.set k (.inr (.inl (0, n, f2)))) := hf.set hk ⟨_, rfl, fun z => inW_ne hw z, pNo_stay hp _ _⟩
theorem rw_ne {h : List cC} {k j : Nat} {c x : cC} (hj : k ≠ j) (hh : h[j]? = some c) : (h.set k x)[j]? = some c := by
  rw [List.getElem?_set_ne hj]
  exact hh
theorem rw_eq {h : List cC} {k : Nat} {c x : cC} (hh : h[k]? = some c) : (h.set k x)[k]? = some x := List.getElem?_set_self (List.getElem?_eq_some_iff.mp hh).1
/-- a clause up to its test -/
abbrev coL (so A : Int32) : List (Nat × cV) := [(2, cI A), (0, cR 170), (1, cI so)]
theorem co_pre {t cl ln : Nat} (ht : t < 6) (hcl : cl + 1 ≤ 12) {so : Int32} (hso : 0 ≤ so.toInt ∧ so.toInt ≤ 1) {h : List cC} (hG : HG TT [] h) (hJ : J9 h) (hk : KCx t cl ln h) : ∃ (h2 : List cC) (A : Int32) (b : Nat) (gc : Nat → Int32), A.toInt = ((36 * t + 3 * cl : Nat) : Int) ∧ Go (calF (Trm 23)) eM165 none (4, [(0, cR 170), (1, cI so)], [], h) (49, coL so A, [cR 170], h2) ∧ HG TT [] h2 ∧ Fr PT9 kVc h h2 ∧ J9 h2 ∧ KCx t cl ln h2 ∧ KB t b 0 h2 ∧ h2[174]? = some (.inr (.inl (0, 216, gc))) ∧ (gc (36 * t + 3 * cl + 1)).toInt = b := by
  obtain ⟨md, b, o, f, g, gc, cc, k1, k2, k3, k4, k5, k6, k7, k8, k9, k10, k11, k12, k13⟩ := hk
  obtain ⟨vs, m1, m3, m4, m5, m6, m7⟩ := mo_at hG
  obtain ⟨x, x1, x2⟩ := fv_at m1 k1
  obtain ⟨i1, i2⟩ := in_B (n := 6) x2 ht
  obtain ⟨j1, j2⟩ := in_B (n := 7) x2 (by omega)
  have e36 : ((Int8.ofInt 36).toInt32).toInt = 36 := rfl
  have e3 : (Int32.ofInt 3).toInt = 3 := rfl
  have a1 : ((Int8.ofInt 36).toInt32 * x).toInt = 36 * x.toInt := by rw [i32_mul (by rw [e36]; omega) (by rw [e36]; omega), e36]
  have a2 : (Int32.ofInt 3 * cc t).toInt = 3 * (cc t).toInt := by rw [i32_mul (by rw [e3]; omega) (by rw [e3]; omega), e3]
  have a3 : ((Int8.ofInt 36).toInt32 * x + Int32.ofInt 3 * cc t).toInt = ((36 * t + 3 * cl : Nat) : Int) := by
    rw [i32_add (by omega) (by omega), a1, a2]
    omega
  have a4 : ((Int8.ofInt 36).toInt32 * x + Int32.ofInt 3 * cc t + Int32.ofInt 1).toInt = ((36 * t + 3 * cl + 1 : Nat) : Int) := by
    rw [i32_add (by rw [one_i]; omega) (by rw [one_i]; omega), one_i]
    omega
  generalize hA : (Int8.ofInt 36).toInt32 * x + Int32.ofInt 3 * cc t = A at a3 a4
  obtain ⟨p1, p2⟩ := in_B (n := 216) a3 (by omega)
  obtain ⟨q1, q2⟩ := in_B (n := 216) a4 (by omega)
  have hb : b ≤ 400 := by omega
  have s20 : ∀ (ls : List (Nat × cV)) (st : List cV), cOne (calF (Trm 23)) eM165 none (20, ls, cI x :: cR 175 :: st, h) = some (21, ls, cI (cc t) :: st, h) := fun ls st => by
    have := o_iald (call := calF (Trm 23)) (M := eM165) (sc := none) (pc := 20) (ls := ls) (st := st) rfl k10 i1
    rw [i2] at this
    exact this
  have s30 : ∀ (ls : List (Nat × cV)) (st : List cV), cOne (calF (Trm 23)) eM165 none (30, ls, cI so :: cI A :: cR 174 :: st, h) = some (31, ls, st, h.set 174 (.inr (.inl (0, 216, upd gc (36 * t + 3 * cl) so)))) := fun ls st => by
    have := o_iast (call := calF (Trm 23)) (M := eM165) (sc := none) (pc := 30) (ls := ls) (st := st) (x := so) rfl k9 p1
    rw [p2] at this
    exact this
  have u1 : (h.set 174 (.inr (.inl (0, 216, upd gc (36 * t + 3 * cl) so))))[170]? = some (.inl (12, vs)) := rw_ne (by decide) m1
  have u3 : (h.set 174 (.inr (.inl (0, 216, upd gc (36 * t + 3 * cl) so))))[173]? = some (.inr (.inl (0, 7, g))) := rw_ne (by decide) k8
  have u4 : (h.set 174 (.inr (.inl (0, 216, upd gc (36 * t + 3 * cl) so))))[174]? = some (.inr (.inl (0, 216, upd gc (36 * t + 3 * cl) so))) := rw_eq k9
  have s46 : ∀ (ls : List (Nat × cV)) (st : List cV), cOne (calF (Trm 23)) eM165 none (46, ls, cI x :: cR 173 :: st, h.set 174 (.inr (.inl (0, 216, upd gc (36 * t + 3 * cl) so)))) = some (47, ls, cI (g t) :: st, h.set 174 (.inr (.inl (0, 216, upd gc (36 * t + 3 * cl) so)))) := fun ls st => by
    have := o_iald (call := calF (Trm 23)) (M := eM165) (sc := none) (pc := 46) (ls := ls) (st := st) rfl u3 j1
    rw [j2] at this
    exact this
  have s47 : ∀ (ls : List (Nat × cV)) (st : List cV), cOne (calF (Trm 23)) eM165 none (47, ls, cI (g t) :: cI (A + Int32.ofInt 1) :: cR 174 :: st, h.set 174 (.inr (.inl (0, 216, upd gc (36 * t + 3 * cl) so)))) = some (48, ls, st, (h.set 174 (.inr (.inl (0, 216, upd gc (36 * t + 3 * cl) so)))).set 174 (.inr (.inl (0, 216, upd (upd gc (36 * t + 3 * cl) so) (36 * t + 3 * cl + 1) (g t))))) := fun ls st => by
    have := o_iast (call := calF (Trm 23)) (M := eM165) (sc := none) (pc := 47) (ls := ls) (st := st) (x := g t) rfl u4 q1
    rw [q2] at this
    exact this
  have s22 : ∀ (ls : List (Nat × cV)) (st : List cV), cOne (calF (Trm 23)) eM165 none (22, ls, cI (Int32.ofInt 3 * cc t) :: cI ((Int8.ofInt 36).toInt32 * x) :: st, h) = some (23, ls, cI A :: st, h) := fun ls st => by
    rw [← hA]
    exact o_step rfl rfl
  have ke : ∀ j : Nat, j < 12 → (j : Int) < (cc t).toInt → upd (upd gc (36 * t + 3 * cl) so) (36 * t + 3 * cl + 1) (g t) (36 * t + 3 * j + 2) = gc (36 * t + 3 * j + 2) := fun j hj hc => by rw [pk_un (by omega), pk_un (by omega)]
  refine ⟨(h.set 174 (.inr (.inl (0, 216, upd gc (36 * t + 3 * cl) so)))).set 174 (.inr (.inl (0, 216, upd (upd gc (36 * t + 3 * cl) so) (36 * t + 3 * cl + 1) (g t)))), A, b, _, a3, Go.step (o_step rfl rfl) (Go.step (o_aload_n (i := 0) rfl rfl) (Go.step (o_get rfl rfl rfl m1 x1) (Go.step (o_step rfl rfl) (Go.step (o_step rfl rfl) (Go.step (o_aload_n (i := 0) rfl rfl) (Go.step (o_get rfl rfl rfl m1 m6) (Go.step (o_aload_n (i := 0) rfl rfl) (Go.step (o_get rfl rfl rfl m1 x1) (Go.step (s20 _ _) (Go.step (o_step rfl rfl) (Go.step (s22 _ _) (Go.step (o_step rfl rfl) (Go.step (o_aload_n (i := 0) rfl rfl) (Go.step (o_get rfl rfl rfl m1 m5) (Go.step (o_iload_n (i := 2) rfl rfl) (Go.step (o_iload_n (i := 1) rfl rfl) (Go.step (s30 _ _) (Go.step (o_aload_n (i := 0) rfl rfl) (Go.step (o_get rfl rfl rfl u1 m5) (Go.step (o_iload_n (i := 2) rfl rfl) (Go.step (o_step rfl rfl) (Go.step (o_step rfl rfl) (Go.step (o_aload_n (i := 0) rfl rfl) (Go.step (o_get rfl rfl rfl u1 m4) (Go.step (o_aload_n (i := 0) rfl rfl) (Go.step (o_get rfl rfl rfl u1 x1) (Go.step (s46 _ _) (Go.step (s47 _ _) (Go.step (o_aload_n (i := 0) rfl rfl) Go.rf))))))))))))))))))))))))))))), HG_174 (HG_174 hG k9 (by omega) (by omega)) u4 (by omega) (by omega), Fr_rw (Fr_rw Fr.rf k9 rfl rfl) u4 rfl rfl, ⟨JL_row hJ.1 (fun k hk => by rw [List.getElem?_set_ne (Ne.symm (lawK_n hk).1), List.getElem?_set_ne (Ne.symm (lawK_n hk).1)]), ?_⟩, ?_, ?_, rw_eq u4, by rw [pk_us]; exact k11⟩
  · refine WFs_cl hJ.2 k7 k9 k10 (rw_ne (by decide) (rw_ne (by decide) k7)) (rw_eq u4) (rw_ne (by decide) (rw_ne (by decide) k10)) (fun t' j ht' hj hc => ?_)
    have hne : ¬ (t' = t ∧ j = cl) := fun e => by
      obtain ⟨e1, e2⟩ := e
      subst e1 e2
      omega
    have h1 : 36 * t' + 3 * j + 1 ≠ 36 * t + 3 * cl + 1 := fun e => hne (by omega)
    exact ⟨by rw [pk_un h1, pk_un (by omega)], by rw [pk_un (by omega), pk_un (by omega)]⟩
  · exact ⟨md, b, o, f, g, _, cc, fv_row (by decide) (fv_row (by decide) k1), fv_row (by decide) (fv_row (by decide) k2), fv_row (by decide) (fv_row (by decide) k3), k4, k5, rw_ne (by decide) (rw_ne (by decide) k6), rw_ne (by decide) (rw_ne (by decide) k7), rw_ne (by decide) (rw_ne (by decide) k8), rw_eq u4, rw_ne (by decide) (rw_ne (by decide) k10), k11, k12, fun j hj hc => by rw [ke j hj hc]; exact k13 j hj hc⟩
  · exact ⟨md, o, f, g, _, cc, fv_row (by decide) (fv_row (by decide) k1), fv_row (by decide) (fv_row (by decide) k2), Nat.zero_le _, k4, k5, rw_ne (by decide) (rw_ne (by decide) k6), rw_ne (by decide) (rw_ne (by decide) k7), rw_ne (by decide) (rw_ne (by decide) k8), rw_eq u4, rw_ne (by decide) (rw_ne (by decide) k10), k11, fun j hj hc => by rw [ke j hj hc]; exact k13 j hj hc⟩
