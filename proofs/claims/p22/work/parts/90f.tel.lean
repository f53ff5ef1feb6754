/-! THE WAY, 6: tellsOn, from its entry -/
theorem tl_ok {fw fm fn f : Nat → Int32} {fo mn T : Nat} {t hr lw : Int32} {h : List cC} (hG : HG TT [] h) (hJ : J9 h) (hk : RX fw fm fn f fo mn h) (ht : t.toInt = T) (hT : T < mn) (hn : fn T = hr) (h0 : 0 < hr.toInt) (h9 : hr.toInt ≤ 99) (hlw : 0 ≤ lw.toInt ∧ lw.toInt ≤ 5) : ∃ h2 : List cC, Trm 6 245 [cR 170, cI t, cI hr, cI lw] h none h2 ∧ HG TT [] h2 ∧ Fr PT9 tlW h h2 ∧ J9 h2 ∧ RX fw fm fn f fo mn h2 := by
  have hk0 := hk
  obtain ⟨⟨r1, r2, r3, r4, r5, r6, hmn, hfo, hns⟩, ft, fr, k2, k3, k4⟩ := hk
  obtain ⟨vs, m1, _⟩ := mo_at hG
  have m27 := mo_j hG m1 (j := 27) (k := 184) rfl
  have m28 := mo_j hG m1 (j := 28) (k := 185) rfl
  obtain ⟨x, x1, x2⟩ := fv_at m1 r6
  have ex : x = Int32.ofNat fo := i32_nat x2
  subst ex
  obtain ⟨i1, i2⟩ := in_B (n := 31) ht (by omega)
  obtain ⟨fw', q1, q2⟩ := HG_row hG (k := 184) (kd := 0) (n := 31) (d := (0, 9)) rfl
  rw [r1] at q1
  cases q1
  obtain ⟨fm', q3, q4⟩ := HG_row hG (k := 185) (kd := 0) (n := 31) (d := (0, 9)) rfl
  rw [r2] at q3
  cases q3
  have w1 : (0 : Int) ≤ (fw T).toInt := (q2 T (by omega)).1
  have w2 : (fw T).toInt ≤ (9 : Int) := (q2 T (by omega)).2
  have w3 : (0 : Int) ≤ (fm T).toInt := (q4 T (by omega)).1
  have w4 : (fm T).toInt ≤ (9 : Int) := (q4 T (by omega)).2
  have s5 : ∀ (ls : List (Nat × cV)) (st : List cV), cOne (calF (Trm 5)) eM245 none (5, ls, cI t :: cR 184 :: st, h) = some (6, ls, cI (fw T) :: st, h) := fun ls st => by
    have := o_iald (call := calF (Trm 5)) (M := eM245) (sc := none) (pc := 5) (ls := ls) (st := st) rfl r1 i1
    rw [i2] at this
    exact this
  have s13 : ∀ (ls : List (Nat × cV)) (st : List cV), cOne (calF (Trm 5)) eM245 none (13, ls, cI t :: cR 185 :: st, h) = some (14, ls, cI (fm T) :: st, h) := fun ls st => by
    have := o_iald (call := calF (Trm 5)) (M := eM245) (sc := none) (pc := 13) (ls := ls) (st := st) rfl r2 i1
    rw [i2] at this
    exact this
  have s22 : ∀ ls : List (Nat × cV), cOne (calF (Trm 5)) eM245 none (22, ls, [cI (fw T), cI (Int32.ofNat fo)], h) = some (25, ls, [cI (ofF (Int32.ofNat fo) (fw T))], h) := fun ls => gh_st (d := 5) (mi := 201) (N := eM201) (pc := 22) (ls := ls) (st := [cI (fw T), cI (Int32.ofNat fo)]) (r := some (cI (ofF (Int32.ofNat fo) (fw T)))) rfl rfl rfl rfl rfl (Trm_le (by decide) (of_trm _ _))
  have pre : Go (calF (Trm 5)) eM245 none (0, [(0, cR 170), (1, cI t), (2, cI hr), (3, cI lw)], [], h) (27, [(6, cI (ofF (Int32.ofNat fo) (fw T))), (5, cI (fm T)), (4, cI (fw T)), (0, cR 170), (1, cI t), (2, cI hr), (3, cI lw)], [], h) := Go.step (o_aload_n (i := 0) rfl rfl) (Go.step (o_get rfl rfl rfl m1 m27) (Go.step (o_iload_n (i := 1) rfl rfl) (Go.step (s5 _ _) (Go.step (o_ist rfl rfl) (Go.step (o_aload_n (i := 0) rfl rfl) (Go.step (o_get rfl rfl rfl m1 m28) (Go.step (o_iload_n (i := 1) rfl rfl) (Go.step (s13 _ _) (Go.step (o_ist rfl rfl) (Go.step (o_aload_n (i := 0) rfl rfl) (Go.step (o_get rfl rfl rfl m1 x1) (Go.step (o_iload rfl rfl) (Go.step (s22 _) (Go.step (o_ist rfl rfl) Go.rf))))))))))))))
  have hse : 0 ≤ (ofF (Int32.ofNat fo) (fw T)).toInt ∧ (ofF (Int32.ofNat fo) (fw T)).toInt ≤ 1 := by
    unfold ofF
    split
    · exact ⟨by decide, by decide⟩
    · exact ⟨by decide, by decide⟩
  have hB : okB [t.toInt, hr.toInt, lw.toInt, (fw T).toInt, (fm T).toInt, (ofF (Int32.ofNat fo) (fw T)).toInt] teB6 := bcons ⟨by show (0 : Int) ≤ _; omega, by show _ ≤ (30 : Int); omega⟩ (bcons ⟨by show (0 : Int) ≤ _; omega, by show _ ≤ (99 : Int); omega⟩ (bcons ⟨by show (0 : Int) ≤ _; omega, by show _ ≤ (5 : Int); omega⟩ (bcons ⟨by show (0 : Int) ≤ _; omega, by show _ ≤ (9 : Int); omega⟩ (bcons ⟨by show (0 : Int) ≤ _; omega, by show _ ≤ (9 : Int); omega⟩ (bcons ⟨hse.1, hse.2⟩ bnil)))))
  have hQ : Qok P9 teW 5 (mkQ P39 teW [zn155, zn179, zn180] 3000 1) := mkQ_ok J9_ok (d := 4) (cs_cons (Con_le (by decide) zt155) (cs_cons (Con_le (by decide) zt179) (cs_cons (Con_le (by decide) zt180) cs_nil))) 3000 1
  obtain ⟨S2, y1, y2, y3⟩ := chkL_ok (P := P9) J9_ok hQ tlA_k [t.toInt, hr.toInt, lw.toInt, (fw T).toInt, (fm T).toInt, (ofF (Int32.ofNat fo) (fw T)).toInt] rfl h [t.toInt, hr.toInt, lw.toInt, (fw T).toInt, (fm T).toInt, (ofF (Int32.ofNat fo) (fw T)).toInt] (27, [(6, cI (ofF (Int32.ofNat fo) (fw T))), (5, cI (fm T)), (4, cI (fw T)), (0, cR 170), (1, cI t), (2, cI hr), (3, cI lw)], [], h) rfl hG hB ⟨List.prefix_rfl, fun q hq => by cases hq⟩ (fun q hq => by
    simp only [List.mem_cons, List.not_mem_nil, or_false] at hq
    rcases hq with rfl | rfl | rfl | rfl | rfl | rfl | rfl
    · exact ⟨_, rfl, 170, List.mem_singleton.mpr rfl, rfl⟩
    · exact ⟨_, rfl, vxs rfl⟩
    · exact ⟨_, rfl, vxs rfl⟩
    · exact ⟨_, rfl, vxs rfl⟩
    · exact ⟨_, rfl, vxs rfl⟩
    · exact ⟨_, rfl, vxs rfl⟩
    · exact ⟨_, rfl, vxs rfl⟩) trivial (fun q hq => by cases hq) ⟨Fr.rf, hJ⟩
  have F2' : Fr PT9 teW h S2.2.2.2 := y2.1
  have J2 : J9 S2.2.2.2 := y2.2
  have R2 : RX fw fm fn f fo mn S2.2.2.2 := RX_keep F2' ⟨rfl, rfl, rfl, rfl, rfl, rfl⟩ ⟨rfl, rfl⟩ hk0
  rcases y3 with ⟨l2, z1, ρ2, z2, z3, z4, z5, z6, z7, z8, z9⟩ | ⟨r, z1, z2, o, o1, ρ', o2, o3, o4, o5⟩
  · have e := List.mem_singleton.mp z1
    subst e
    obtain ⟨S2pc, ls2, st2, h2⟩ := S2
    dsimp only at y1 z2 z3 z5 z6 z7 F2' J2 R2
    have e2 : st2 = [] := by
      cases st2 with
      | nil => rfl
      | cons _ _ => exact z7.elim
    subst z2 e2
    obtain ⟨pc, ls3, h3, a1, a2, a3, a4, a5, a6⟩ := te_end (F := (fw T).toInt.toNat) (P := (fm T).toInt.toNat) (lw := lw) z3 J2 R2 ht hT (by omega) (by omega) (by omega) (by omega) hn h0 h9 hlw (te_at z6 z5.1)
    exact ⟨h3, Trm_succ.mpr ⟨eM245, (pc, ls3, [], h3), rfl, Nat.le_of_ble_eq_true rfl, pre.trans (y1.trans a1), a2⟩, a3, Fr.tr (subW_rf tlW) (Fr.tr (W2 := teW) rfl Fr.rf F2') a4, a5, a6⟩
  · have e := List.mem_singleton.mp o1
    subst e
    have er : r = none := by
      cases r with
      | none => rfl
      | some v => exact o5.elim
    subst er
    exact ⟨S2.2.2.2, Trm_succ.mpr ⟨eM245, S2, rfl, Nat.le_of_ble_eq_true rfl, pre.trans y1, z1⟩, z2, Fr.tr (W2 := teW) rfl Fr.rf F2', J2, R2⟩
