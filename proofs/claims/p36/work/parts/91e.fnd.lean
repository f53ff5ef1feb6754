/-! THE WAY, 16: finds: a level up, a level down -/
section
variable {fw fm fn f ft fr : Nat → Int32} {fo mn P R : Nat} {p r : Int32}
theorem fi_up (hq : FQ p r P R) {h0 : List cC} (k : Nat) (w : Nat → Int) (X : List (Nat × cV) × List cC) (hkN : k < bN R) (hX : FP fw fm fn f ft fr fo mn R p r h0 k w X) (t : Int) (hwt : w k < t) (htm : t < mn) (hg : gBx fw fm fn ft f fo mn P R (fr (1024 * P + R)).toInt t k w) (hno : ∀ u : Int, w k < u → u < t → ¬ gBx fw fm fn ft f fo mn P R (fr (1024 * P + R)).toInt u k w) : ∃ (X9 : List (Nat × cV) × List cC) (w9 : Nat → Int), Go (calF (Trm 5)) eM179 none (18, X.1, [], X.2) (18, X9.1, [], X9.2) ∧ FP fw fm fn f ft fr fo mn R p r h0 (k + 1) w9 X9 ∧ (∀ i : Nat, i < k → w9 i = w i) ∧ w9 k = t ∧ w9 (k + 1) = -1 := by
  obtain ⟨ls, h⟩ := X
  obtain ⟨kk, u, U, wt, hL, hk, hu, hU, hH, hF, e1, e2, ⟨e3, e4⟩, e5⟩ := hX
  dsimp only at hL hH hF ⊢
  obtain ⟨ls1, t1, y1, y2, y3, y4⟩ := fi_head hq.2.2.2.2 hL hk hkN hH (e1 k (Nat.le_refl k)) e3 e4
  have hmn := hH.2.2.1.2.2.2.2.2.2.1
  obtain ⟨ls2, t2, z1, z2, z3, z4⟩ := fi_inner hq hk hkN hu hU hH (fun i hi => e1 i (by omega)) e2 (E := t.toNat) (by omega) (t.toNat - (w k + 1).toNat) (w k + 1).toNat t1 ls1 (by omega) (by omega) y2 y3 (fun v v1 v2 => hno v (by omega) (by omega))
  have ht0 : ((t.toNat : Nat) : Int) = t := by omega
  obtain ⟨b, b1, b2⟩ := fi_one hq z2 hk hkN hu hU hH (fun i hi => e1 i (by omega)) e2 z3 z4 (by omega)
  have hb : b ≠ 0 := b2.mpr (by rw [ht0]; exact hg)
  have hq0 := hq
  obtain ⟨hp, hP, hr, hR, hN⟩ := hq
  have hH0 := hH
  obtain ⟨hG, hJ, hT, r6, r8, r9⟩ := hH
  obtain ⟨c0, c1, c2, c3, c4, c5⟩ := z2
  obtain ⟨vs, m1, _⟩ := mo_at hG
  have m27 := mo_j hG m1 (j := 27) (k := 184) rfl
  have m47 := mo_j hG m1 (j := 47) (k := 201) rfl
  obtain ⟨x, x1, x2⟩ := fv_at m1 hT.2.2.2.2.1
  obtain ⟨fw', q1, q2⟩ := HG_row hG (k := 184) (kd := 0) (n := 31) (d := (0, 9)) rfl
  have rw0 := hT.1
  rw [rw0] at q1
  cases q1
  have w1 : (0 : Int) ≤ (fw t.toNat).toInt := (q2 t.toNat (by omega)).1
  have w2 : (fw t.toNat).toInt ≤ (9 : Int) := (q2 t.toNat (by omega)).2
  have hd71 : cDec .ne t2 x = true := decide_eq_true (fun z => by rw [z] at z4; omega)
  obtain ⟨i1, i2⟩ := in_B (n := 10) hk (by omega)
  obtain ⟨j1, j2⟩ := in_B (n := 31) z4 (by omega)
  have hk1 : (kk + Int32.ofInt 1).toInt = ((k + 1 : Nat) : Int) := by
    rw [i32_add (by rw [one_i]; omega) (by rw [one_i]; omega), one_i]
    omega
  obtain ⟨n1, n2⟩ := in_B (n := 10) hk1 (by omega)
  have em1 : (Int32.ofInt (-1)).toInt = -1 := rfl
  have H1 := FH_set hH0 (i := k) (x := t2) (by omega) (by omega)
  have H2 := FH_set H1 (i := k + 1) (x := Int32.ofInt (-1)) (by rw [em1]; omega) (by rw [em1]; omega)
  have s109 : ∀ (ls : List (Nat × cV)) (st : List cV), cOne (calF (Trm 5)) eM179 none (109, ls, cI t2 :: cI kk :: cR 201 :: st, h) = some (110, ls, st, h.set 201 (.inr (.inl (0, 10, upd wt k t2)))) := fun ls st => by
    have := o_iast (call := calF (Trm 5)) (M := eM179) (sc := none) (pc := 109) (ls := ls) (st := st) (x := t2) rfl r9 i1
    rw [i2] at this
    exact this
  generalize hh1 : h.set 201 (.inr (.inl (0, 10, upd wt k t2))) = h1 at s109 H1 H2
  have F1 : Fr PT9 fiW h0 h1 := by rw [← hh1]; exact Fr_rw hF r9 rfl rfl
  obtain ⟨G1, J1, T1, _, _, q9⟩ := H1
  obtain ⟨us, u1, _⟩ := mo_at G1
  have n27 := mo_j G1 u1 (j := 27) (k := 184) rfl
  have n47 := mo_j G1 u1 (j := 47) (k := 201) rfl
  have s119 : ∀ (ls : List (Nat × cV)) (st : List cV), cOne (calF (Trm 5)) eM179 none (119, ls, cI t2 :: cR 184 :: st, h1) = some (120, ls, cI (fw t.toNat) :: st, h1) := fun ls st => by
    have := o_iald (call := calF (Trm 5)) (M := eM179) (sc := none) (pc := 119) (ls := ls) (st := st) rfl T1.1 j1
    rw [j2] at this
    exact this
  have s134 : ∀ (ls : List (Nat × cV)) (st : List cV), cOne (calF (Trm 5)) eM179 none (134, ls, cI (Int32.ofInt (-1)) :: cI (kk + Int32.ofInt 1) :: cR 201 :: st, h1) = some (135, ls, st, h1.set 201 (.inr (.inl (0, 10, upd (upd wt k t2) (k + 1) (Int32.ofInt (-1)))))) := fun ls st => by
    have := o_iast (call := calF (Trm 5)) (M := eM179) (sc := none) (pc := 134) (ls := ls) (st := st) (x := Int32.ofInt (-1)) rfl q9 n1
    rw [n2] at this
    exact this
  have l5 := FL_5 ⟨c0, c1, c2, c3, c4, c5⟩ (u ||| (Int32.ofInt 1 <<< (fw t.toNat &&& 31)))
  generalize hl5 : (5, cI (u ||| (Int32.ofInt 1 <<< (fw t.toNat &&& 31)))) :: ls2.filter (ckI 5) = ls5 at l5
  have l4 := FL_4 l5 (kk + Int32.ofInt 1)
  generalize hl4 : (4, cI (kk + Int32.ofInt 1)) :: ls5.filter (ckI 4) = ls4 at l4
  have g101 : Go (calF (Trm 5)) eM179 none (101, ls2, [], h) (124, ls5, [], h1) := by
    rw [← hl5]
    exact Go.step (o_aload_n (i := 0) rfl c0) (Go.step (o_get rfl rfl rfl m1 m47) (Go.step (o_iload rfl c4) (Go.step (o_iload rfl z3) (Go.step (s109 _ _) (Go.step (o_iload rfl c5) (Go.step (o_step rfl rfl) (Go.step (o_aload_n (i := 0) rfl c0) (Go.step (o_get rfl rfl rfl u1 n27) (Go.step (o_iload rfl z3) (Go.step (s119 _ _) (Go.step (o_step rfl rfl) (Go.step (o_step rfl rfl) (Go.step (o_ist rfl rfl) Go.rf)))))))))))))
  have g124 : Go (calF (Trm 5)) eM179 none (124, ls5, [], h1) (18, ls4, [], h1.set 201 (.inr (.inl (0, 10, upd (upd wt k t2) (k + 1) (Int32.ofInt (-1)))))) := by
    have s124 : cOne (calF (Trm 5)) eM179 none (124, ls5, [], h1) = some (127, ls4, [], h1) := by
      rw [← hl4]
      exact o_inc rfl rfl l5.2.2.2.2.1
    exact Go.step s124 (Go.step (o_aload_n (i := 0) rfl l4.1) (Go.step (o_get rfl rfl rfl u1 n47) (Go.step (o_iload rfl l4.2.2.2.2.1) (Go.step (o_step rfl rfl) (Go.step (s134 _ _) (Go.step (o_step rfl rfl) Go.rf))))))
  have g56 : Go (calF (Trm 5)) eM179 none (56, ls2, [cI b], h) (101, ls2, [], h) := Go.step (o_if_t (t := 65) rfl rfl (decide_eq_true hb)) (Go.step (o_iload rfl z3) (Go.step (o_aload_n (i := 0) rfl c0) (Go.step (o_get rfl rfl rfl m1 x1) (Go.step (o_ic_t (t := 101) rfl rfl hd71) Go.rf))))
  have eU : u = Int32.ofNat U := i32_nat hu
  have eF : fw t.toNat = Int32.ofNat (fw t.toNat).toInt.toNat := i32_nat (by omega)
  obtain ⟨o1, o2⟩ := or_k (x := U) (k := (fw t.toNat).toInt.toNat) hU.1 (by omega)
  rw [← eU, ← eF] at o1
  have w9k : ∀ i : Nat, i < k → (if i = k then t else if i = k + 1 then -1 else w i) = w i := fun i hi => by rw [if_neg (by omega), if_neg (by omega)]
  have w9e : (if k = k then t else if k = k + 1 then -1 else w k) = t := if_pos rfl
  refine ⟨(ls4, h1.set 201 (.inr (.inl (0, 10, upd (upd wt k t2) (k + 1) (Int32.ofInt (-1)))))), fun i => if i = k then t else if i = k + 1 then -1 else w i, y1.trans (z1.trans (b1.trans (g56.trans (g101.trans g124)))), ⟨kk + Int32.ofInt 1, u ||| (Int32.ofInt 1 <<< (fw t.toNat &&& 31)), U ||| 1 <<< (fw t.toNat).toInt.toNat, upd (upd wt k t2) (k + 1) (Int32.ofInt (-1)), l4, hk1, by rw [o1]; exact nat_i (by omega), ⟨o2, fun x hx => ?_⟩, H2, Fr_rw F1 q9 rfl rfl, fun i hi => ?_, fun i hi => ?_, ⟨?_, ?_⟩, fun i j hij hj => ?_⟩, w9k, w9e, ?_⟩
  · rw [bOf_more hU.1 (by omega) hx]
    constructor
    · intro hb1
      cases hbu : bOf U x with
      | true =>
        obtain ⟨i, hi, e⟩ := (hU.2 x hx).mp hbu
        exact ⟨i, by omega, by dsimp only; rw [w9k i hi]; exact e⟩
      | false =>
        rw [hbu] at hb1
        have e : x = (fw t.toNat).toInt.toNat := nbeq_t hb1
        exact ⟨k, by omega, by dsimp only; rw [w9e]; omega⟩
    · rintro ⟨i, hi, e⟩
      dsimp only at e
      by_cases hik : i = k
      · subst hik
        rw [w9e] at e
        have e2 : x = (fw t.toNat).toInt.toNat := by omega
        rw [e2, Nat.beq_refl, Bool.or_true]
      · rw [w9k i (by omega)] at e
        rw [(hU.2 x hx).mpr ⟨i, by omega, e⟩]
        rfl
  · dsimp only
    by_cases h1k : i = k + 1
    · subst h1k
      rw [pk_us, if_neg (by omega), if_pos rfl]
      exact em1
    · rw [pk_un h1k]
      by_cases h2k : i = k
      · subst h2k
        rw [pk_us, w9e]
        omega
      · rw [pk_un h2k, w9k i (by omega)]
        exact e1 i (by omega)
  · dsimp only
    by_cases h2k : i = k
    · subst h2k
      rw [w9e]
      omega
    · rw [w9k i (by omega)]
      exact e2 i (by omega)
  · dsimp only
    rw [if_neg (by omega), if_pos rfl]
    omega
  · dsimp only
    rw [if_neg (by omega), if_pos rfl]
    omega
  · dsimp only
    rw [w9k i (by omega)]
    by_cases h2k : j = k
    · subst h2k
      rw [w9e]
      exact hg.2.2.2.2.1 i hij
    · rw [w9k j (by omega)]
      exact e5 i j hij (by omega)
  · dsimp only
    rw [if_neg (by omega), if_pos rfl]
theorem fi_down (hq : FQ p r P R) {h0 : List cC} (k : Nat) (w : Nat → Int) (X : List (Nat × cV) × List cC) (hkN : k < bN R) (hk0 : 0 < k) (hX : FP fw fm fn f ft fr fo mn R p r h0 k w X) (hno : ∀ u : Int, w k < u → u < mn → ¬ gBx fw fm fn ft f fo mn P R (fr (1024 * P + R)).toInt u k w) : ∃ (X9 : List (Nat × cV) × List cC) (w9 : Nat → Int), Go (calF (Trm 5)) eM179 none (18, X.1, [], X.2) (18, X9.1, [], X9.2) ∧ FP fw fm fn f ft fr fo mn R p r h0 (k - 1) w9 X9 ∧ ∀ i : Nat, i < k → w9 i = w i := by
  obtain ⟨ls, h⟩ := X
  obtain ⟨kk, u, U, wt, hL, hk, hu, hU, hH, hF, e1, e2, ⟨e3, e4⟩, e5⟩ := hX
  dsimp only at hL hH hF ⊢
  obtain ⟨ls1, t1, y1, y2, y3, y4⟩ := fi_head hq.2.2.2.2 hL hk hkN hH (e1 k (Nat.le_refl k)) e3 e4
  have hmn := hH.2.2.1.2.2.2.2.2.2.1
  obtain ⟨ls2, t2, z1, z2, z3, z4⟩ := fi_inner hq hk hkN hu hU hH (fun i hi => e1 i (by omega)) e2 (E := mn) (Nat.le_refl mn) (mn - (w k + 1).toNat) (w k + 1).toNat t1 ls1 (by omega) (by omega) y2 y3 (fun v v1 v2 => hno v (by omega) (by omega))
  obtain ⟨hp, hP, hr, hR, hN⟩ := hq
  have hH0 := hH
  obtain ⟨hG, hJ, hT, r6, r8, r9⟩ := hH
  obtain ⟨vs, m1, _⟩ := mo_at hG
  have m27 := mo_j hG m1 (j := 27) (k := 184) rfl
  have m47 := mo_j hG m1 (j := 47) (k := 201) rfl
  obtain ⟨x, x1, x2⟩ := fv_at m1 hT.2.2.2.2.1
  obtain ⟨fw', q1, q2⟩ := HG_row hG (k := 184) (kd := 0) (n := 31) (d := (0, 9)) rfl
  have rw0 := hT.1
  rw [rw0] at q1
  cases q1
  obtain ⟨v1, v2⟩ := e2 (k - 1) (by omega)
  have ek := e1 (k - 1) (by omega)
  have w1 : (0 : Int) ≤ (fw (w (k - 1)).toNat).toInt := (q2 (w (k - 1)).toNat (by omega)).1
  have w2 : (fw (w (k - 1)).toNat).toInt ≤ (9 : Int) := (q2 (w (k - 1)).toNat (by omega)).2
  have ex : t2 = x := Int32.toInt_inj.mp (by omega)
  have hd35 : cDec .ge t2 x = true := decide_eq_true (Int32.le_iff_toInt_le.mpr (by omega))
  have hd71 : cDec .ne t2 x = false := decide_eq_false (fun z => z ex)
  have em1 : (Int32.ofInt (-1)).toInt = -1 := rfl
  have hk1 : (kk + Int32.ofInt (-1)).toInt = ((k - 1 : Nat) : Int) := by
    rw [i32_add (by rw [em1]; omega) (by rw [em1]; omega), em1]
    omega
  obtain ⟨i1, i2⟩ := in_B (n := 10) hk1 (by omega)
  obtain ⟨j1, j2⟩ := in_B (x := wt (k - 1)) (n := 31) (k := (w (k - 1)).toNat) (by omega) (by omega)
  have s90 : ∀ (ls : List (Nat × cV)) (st : List cV), cOne (calF (Trm 5)) eM179 none (90, ls, cI (kk + Int32.ofInt (-1)) :: cR 201 :: st, h) = some (91, ls, cI (wt (k - 1)) :: st, h) := fun ls st => by
    have := o_iald (call := calF (Trm 5)) (M := eM179) (sc := none) (pc := 90) (ls := ls) (st := st) rfl r9 i1
    rw [i2] at this
    exact this
  have s91 : ∀ (ls : List (Nat × cV)) (st : List cV), cOne (calF (Trm 5)) eM179 none (91, ls, cI (wt (k - 1)) :: cR 184 :: st, h) = some (92, ls, cI (fw (w (k - 1)).toNat) :: st, h) := fun ls st => by
    have := o_iald (call := calF (Trm 5)) (M := eM179) (sc := none) (pc := 91) (ls := ls) (st := st) rfl rw0 j1
    rw [j2] at this
    exact this
  have l4 := FL_4 z2 (kk + Int32.ofInt (-1))
  have g35 : Go (calF (Trm 5)) eM179 none (35, ls2, [], h) (77, (4, cI (kk + Int32.ofInt (-1))) :: ls2.filter (ckI 4), [], h) := Go.step (o_iload rfl z3) (Go.step (o_aload_n (i := 0) rfl z2.1) (Go.step (o_get rfl rfl rfl m1 x1) (Go.step (o_ic_t (t := 65) rfl rfl hd35) (Go.step (o_iload rfl z3) (Go.step (o_aload_n (i := 0) rfl z2.1) (Go.step (o_get rfl rfl rfl m1 x1) (Go.step (o_ic_f (t := 101) rfl rfl hd71) (Go.step (o_inc rfl rfl z2.2.2.2.2.1) Go.rf))))))))
  generalize hl4 : (4, cI (kk + Int32.ofInt (-1))) :: ls2.filter (ckI 4) = ls4 at l4 g35
  have l5 := FL_5 l4 (u &&& ((Int32.ofInt 1 <<< (fw (w (k - 1)).toNat &&& 31)) ^^^ Int32.ofInt (-1)))
  obtain ⟨c0, c1, c2, c3, c4, c5⟩ := l4
  have g77 : Go (calF (Trm 5)) eM179 none (77, ls4, [], h) (18, (5, cI (u &&& ((Int32.ofInt 1 <<< (fw (w (k - 1)).toNat &&& 31)) ^^^ Int32.ofInt (-1)))) :: ls4.filter (ckI 5), [], h) := Go.step (o_iload rfl c5) (Go.step (o_step rfl rfl) (Go.step (o_aload_n (i := 0) rfl c0) (Go.step (o_get rfl rfl rfl m1 m27) (Go.step (o_aload_n (i := 0) rfl c0) (Go.step (o_get rfl rfl rfl m1 m47) (Go.step (o_iload rfl c4) (Go.step (s90 _ _) (Go.step (s91 _ _) (Go.step (o_step rfl rfl) (Go.step (o_step rfl rfl) (Go.step (o_step rfl rfl) (Go.step (o_step rfl rfl) (Go.step (o_ist rfl rfl) (Go.step (o_step rfl rfl) Go.rf))))))))))))))
  have eU : u = Int32.ofNat U := i32_nat hu
  have eF : fw (w (k - 1)).toNat = Int32.ofNat (fw (w (k - 1)).toNat).toInt.toNat := i32_nat (by omega)
  obtain ⟨o1, o2, o3⟩ := an_k (x := U) (k := (fw (w (k - 1)).toNat).toInt.toNat) hU.1 (by omega)
  rw [← eU, ← eF] at o1
  refine ⟨(_, h), w, y1.trans (z1.trans (g35.trans g77)), ⟨kk + Int32.ofInt (-1), _, _, wt, l5, hk1, by rw [o1]; exact nat_i (by omega), ⟨o2, fun x hx => ?_⟩, hH0, hF, fun i hi => e1 i (by omega), fun i hi => e2 i (by omega), ⟨by omega, v2⟩, fun i j hij hj => e5 i j hij (by omega)⟩, fun i hi => rfl⟩
  rw [o3 x hx]
  constructor
  · intro hb
    obtain ⟨hb1, hb2⟩ := and_inv hb
    obtain ⟨i, hi, e⟩ := (hU.2 x hx).mp hb1
    by_cases hik : i = k - 1
    · exfalso
      subst hik
      have e2 : x = (fw (w (k - 1)).toNat).toInt.toNat := by omega
      rw [e2, Nat.beq_refl] at hb2
      cases hb2
    · exact ⟨i, by omega, e⟩
  · rintro ⟨i, hi, e⟩
    rw [(hU.2 x hx).mpr ⟨i, by omega, e⟩]
    have hne := e5 i (k - 1) hi (by omega)
    cases hbq : Nat.beq x (fw (w (k - 1)).toNat).toInt.toNat with
    | false => rfl
    | true =>
      have := nbeq_t hbq
      exact absurd (by omega) hne
/-- finds comes to its end where the row has a way -/
theorem fi_ok (hq : FQ p r P R) {h : List cC} {wt : Nat → Int32} (hH : FH fw fm fn f ft fr fo mn wt h) (hR0 : 0 < bN R) (hw : WY fw fm fn ft f fo mn P R (fr (1024 * P + R)).toInt) : ∃ (h2 : List cC) (wt2 : Nat → Int32), Trm 6 179 [cR 170, cI p, cI r] h none h2 ∧ FH fw fm fn f ft fr fo mn wt2 h2 ∧ Fr PT9 fiW h h2 := by
  have hq0 := hq
  obtain ⟨hp, hP, hr, hR, hN⟩ := hq
  have hH0 := hH
  obtain ⟨hG, hJ, hT, r6, r8, r9⟩ := hH
  obtain ⟨vs, m1, _⟩ := mo_at hG
  have m47 := mo_j hG m1 (j := 47) (k := 201) rfl
  have er : r = Int32.ofNat R := i32_nat hr
  have em1 : (Int32.ofInt (-1)).toInt = -1 := rfl
  have H1 := FH_set hH0 (i := 0) (x := Int32.ofInt (-1)) (by rw [em1]; omega) (by rw [em1]; omega)
  have s1 : cOne (calF (Trm 5)) eM179 none (1, [(0, cR 170), (1, cI p), (2, cI r)], [cI r], h) = some (4, [(0, cR 170), (1, cI p), (2, cI r)], [cI (Int32.ofNat (bN R))], h) := gh_st (d := 5) (mi := 158) (N := eM158) (pc := 1) (ls := [(0, cR 170), (1, cI p), (2, cI r)]) (st := [cI r]) (r := some (cI (Int32.ofNat (bN R)))) rfl rfl rfl rfl rfl (by
    rw [er]
    exact Trm_le (by decide) (bt_trm hR))
  have s17 : ∀ (ls : List (Nat × cV)) (st : List cV), cOne (calF (Trm 5)) eM179 none (17, ls, cI (Int32.ofInt (-1)) :: cI (Int32.ofInt 0) :: cR 201 :: st, h) = some (18, ls, st, h.set 201 (.inr (.inl (0, 10, upd wt 0 (Int32.ofInt (-1)))))) := fun ls st => o_iast (call := calF (Trm 5)) (M := eM179) (sc := none) (pc := 17) (ls := ls) (st := st) (x := Int32.ofInt (-1)) (i := Int32.ofInt 0) rfl r9 rfl
  have g0 : Go (calF (Trm 5)) eM179 none (0, [(0, cR 170), (1, cI p), (2, cI r)], [], h) (18, [(5, cI (Int32.ofInt 0)), (4, cI (Int32.ofInt 0)), (3, cI (Int32.ofNat (bN R))), (0, cR 170), (1, cI p), (2, cI r)], [], h.set 201 (.inr (.inl (0, 10, upd wt 0 (Int32.ofInt (-1)))))) := Go.step (o_iload_n (i := 2) rfl rfl) (Go.step s1 (Go.step (o_step rfl rfl) (Go.step (o_step rfl rfl) (Go.step (o_ist rfl rfl) (Go.step (o_step rfl rfl) (Go.step (o_ist rfl rfl) (Go.step (o_aload_n (i := 0) rfl rfl) (Go.step (o_get rfl rfl rfl m1 m47) (Go.step (o_step rfl rfl) (Go.step (o_step rfl rfl) (Go.step (s17 _ _) Go.rf)))))))))))
  have hP0 : FP fw fm fn f ft fr fo mn R p r h 0 (fun _ => -1) ([(5, cI (Int32.ofInt 0)), (4, cI (Int32.ofInt 0)), (3, cI (Int32.ofNat (bN R))), (0, cR 170), (1, cI p), (2, cI r)], h.set 201 (.inr (.inl (0, 10, upd wt 0 (Int32.ofInt (-1)))))) := ⟨Int32.ofInt 0, Int32.ofInt 0, 0, upd wt 0 (Int32.ofInt (-1)), ⟨rfl, rfl, rfl, rfl, rfl, rfl⟩, rfl, rfl, ⟨by omega, fun x hx => ⟨fun z => (by rw [bOf_zero] at z; cases z), fun ⟨i, hi, _⟩ => absurd hi (by omega)⟩⟩, H1, Fr_rw Fr.rf r9 rfl rfl, fun i hi => (by
    have e : i = 0 := by omega
    subst e
    rw [pk_us]
    exact em1), fun i hi => absurd hi (by omega), ⟨by (dsimp only); omega, by (dsimp only); omega⟩, fun i j h1 h2 => absurd h2 (by omega)⟩
  obtain ⟨v, hv⟩ := HasWay_dWay _ _ _ _ _ _ _ hw
  obtain ⟨⟨ls9, h9⟩, w9, g1, kk, u, U, wt2, hL, hk, hu, hU, hH9, hF, _⟩ := dfs_ok (fun X Y : List (Nat × cV) × List cC => Go (calF (Trm 5)) eM179 none (18, X.1, [], X.2) (18, Y.1, [], Y.2)) (FP fw fm fn f ft fr fo mn R p r h) (gBx fw fm fn ft f fo mn P R (fr (1024 * P + R)).toInt) (bN R) (mn : Int) (fun X => Go.rf) (fun X Y Z a b => a.trans b) (fun t k w v e g => gB_loc _ _ _ _ _ _ _ t k w v e g) (fun t k w g => g.2.1) (fun t k w g => g.1) (fun k w X a b t c d e g => fi_up hq0 k w X a b t c d e g) (fun k w X a b c d => fi_down hq0 k w X a b c d) hP0 rfl hR0 hv
  dsimp only at g1 hL hH9 hF
  obtain ⟨c0, c1, c2, c3, c4, c5⟩ := hL
  have en := nat_i (n := bN R) (by omega)
  have hd : cDec .ge kk (Int32.ofNat (bN R)) = true := decide_eq_true (Int32.le_iff_toInt_le.mpr (by omega))
  exact ⟨h9, wt2, Trm_succ.mpr ⟨eM179, (138, ls9, [], h9), rfl, Nat.le_of_ble_eq_true rfl, g0.trans (g1.trans (Go.step (o_iload rfl c4) (Go.step (o_iload_n (i := 3) rfl c3) (Go.step (o_ic_t (t := 138) rfl rfl hd) Go.rf)))), rfl⟩, hH9, hF⟩
end
