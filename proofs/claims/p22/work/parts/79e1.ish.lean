/-! BY HAND, 5: the reference looks at the clauses of a LAW -/
theorem rk_o0 : Obl P9 rkW 1 eM229 3 rk0U rk0T rk0A := chkL_ok J9_ok (Qok_le (by decide) (mkQ_ok J9_ok (d := 0) cs_nil 3000 0)) rk0_k
theorem rk_trm {h : List cC} (hG : HG TT [] h) (hJ : J9 h) {f : Nat → Int32} (hs : h[172]? = some (.inr (.inl (0, 2400, f)))) {t b e : Int32} (ht : 0 ≤ t.toInt ∧ t.toInt ≤ 5) (hb : 0 ≤ b.toInt) (hbe : b.toInt ≤ e.toInt) (he : e.toInt ≤ 400) (hd : dep f (400 * t.toInt.toNat + b.toInt.toNat) (e.toInt - b.toInt).toNat 0 = some 1) : ∃ (r : Int64) (h2 : List cC), Trm 2 229 [cR 170, cI t, cI b, cI e] h (some (cJ r)) h2 ∧ HG TT [] h2 ∧ Fr PT9 rkW h h2 ∧ J9 h2 := by
  obtain ⟨S2, ρ2, z1, z2, z3, z4, z5, z6, z7, z8, z9, z10⟩ := Obl_one rk_o0 (ρ := [t.toInt, b.toInt, e.toInt]) rfl (S := (0, [(0, cR 170), (1, cI t), (2, cI b), (3, cI e)], [], h)) rfl hG (bcons ⟨ht.1, ht.2⟩ (bcons ⟨hb, by show _ ≤ (400 : Int); omega⟩ (bcons ⟨by show (0 : Int) ≤ _; omega, he⟩ bnil))) (fun q hq => by cases hq) (fun q hq => by
    simp only [rk0A, List.mem_cons, List.not_mem_nil, or_false] at hq
    rcases hq with rfl | rfl | rfl | rfl
    · exact ⟨_, rfl, 170, List.mem_singleton.mpr rfl, rfl⟩
    · exact ⟨_, rfl, vxs rfl⟩
    · exact ⟨_, rfl, vxs rfl⟩
    · exact ⟨_, rfl, vxs rfl⟩) trivial (fun q hq => by cases hq) hJ
  obtain ⟨Spc, Sls, Sst, Sh⟩ := S2
  dsimp only [rk0T] at z1 z2 z3 z4 z5 z6 z7 z8 z9 z10
  have e2 : Sst = [] := by
    cases Sst with
    | nil => rfl
    | cons _ _ => exact z9.elim
  subst z4 e2
  have r0 : ρ2[0]? = some t.toInt := at_mono z7 rfl
  have r1 : ρ2[1]? = some b.toInt := at_mono z7 rfl
  have r2 : ρ2[2]? = some e.toInt := at_mono z7 rfl
  have k0 := vR z8 (j := 0) (List.mem_of_getElem? (i := 0) rfl)
  obtain ⟨x1, k1, y1⟩ := vL z8 (List.mem_of_getElem? (i := 1) rfl) r0
  obtain ⟨x2, k2, y2⟩ := vL z8 (List.mem_of_getElem? (i := 2) rfl) r1
  obtain ⟨x3, k3, y3⟩ := vL z8 (List.mem_of_getElem? (i := 3) rfl) r2
  obtain ⟨x4, k4, y4⟩ := vL z8 (List.mem_of_getElem? (i := 4) rfl) r1
  obtain ⟨ci, vs, v, g1, g2, x5, g3, g4⟩ := z10 _ (List.mem_of_getElem? (i := 0) rfl)
  have g4 : x5.toInt = 0 := g4
  subst g3
  have e1 : x1 = t := Int32.toInt_inj.mp (by omega)
  have e3 : x2 = b := Int32.toInt_inj.mp (by omega)
  have e4 : x3 = e := Int32.toInt_inj.mp (by omega)
  have e5 : x4 = b := Int32.toInt_inj.mp (by omega)
  subst e1 e3 e4 e5
  have hl := Fr_row z2 (k := 172) rfl hs
  obtain ⟨S3, r, w1, w2, w3, w4, w5⟩ := rk_loop ht (x3.toInt - x4.toInt).toNat x4 x3 x4 x5 Sls Sh h z5 z2 z3 hl ⟨k0, k1, k2, k3, k4, ci, vs, g1, g2⟩ ⟨hb, by omega⟩ hb he (by omega) (by omega) (by rw [g4]; exact hd)
  exact ⟨r, S3.2.2.2, Trm_succ.mpr ⟨eM229, S3, rfl, (show 4 ≤ m_L eM229 by decide), z1.trans w1, w2⟩, w3, w4, w5⟩
theorem HG_row {h : List cC} (hG : HG TT [] h) {k kd n : Nat} {d : eP} (ht : TT[k]? = some (.inr (.inl (kd, n, d, [])))) : ∃ f : Nat → Int32, h[k]? = some (.inr (.inl (kd, n, f))) ∧ ∀ j : Nat, j < n → bt2 d (f j).toInt := by
  obtain ⟨c, h1, f, h2, h3⟩ := hG.2 k _ ht
  exact ⟨f, by rw [h1, h2], fun j hj => (h3 j hj).1⟩
theorem o_rk {ls : List (Nat × cV)} {h h2 : List cC} {t b e : Int32} {r : Int64} {vs : List cV} (hm : h[170]? = some (.inl (12, vs))) (ht : Trm 2 229 [cR 170, cI t, cI b, cI e] h (some (cJ r)) h2) : cOne (calF (Trm 2)) eM195 none (65, ls, [cI e, cI b, cI t, cR 170], h) = some (68, ls, [cJ r], h2) := o_step (ins := .invokevirtual 306) (len := 3) rfl (by
  show kInv (calF (Trm 2)) eM195 2 306 3 65 ls [cI e, cI b, cI t, cR 170] h = _
  unfold kInv
  have h1 : fnd (mTab.getD (m_o eM195) []) 306 = some (2, 229) := rfl
  have h3 : eMT[229]? = some eM229 := rfl
  rw [h1]
  dsimp only
  rw [h3]
  dsimp only
  have h4 : recCk 2 h (m_o eM229) [cR 170, cI t, cI b, cI e] = true := by
    show recC h 12 [cR 170, cI t, cI b, cI e] = true
    unfold recC
    dsimp only
    rw [hm]
    rfl
  have h5 : (Nat.beq 3 3 && ((Nat.beq 2 2 || Nat.beq 2 (2 + 3)) && (Nat.ble (rc 2 + m_n eM229) [cI e, cI b, cI t, cR 170].length && (Nat.ble (catC ([cI e, cI b, cI t, cR 170].drop (rc 2 + m_n eM229))) 8 && recCk 2 h (m_o eM229) ([cI e, cI b, cI t, cR 170].take (rc 2 + m_n eM229)).reverse)))) = true := by
    show (true && (true && (true && (true && recCk 2 h (m_o eM229) [cR 170, cI t, cI b, cI e])))) = true
    rw [h4]
    rfl
  show (match (Nat.beq 3 3 && ((Nat.beq 2 2 || Nat.beq 2 (2 + 3)) && (Nat.ble (rc 2 + m_n eM229) [cI e, cI b, cI t, cR 170].length && (Nat.ble (catC ([cI e, cI b, cI t, cR 170].drop (rc 2 + m_n eM229))) 8 && recCk 2 h (m_o eM229) ([cI e, cI b, cI t, cR 170].take (rc 2 + m_n eM229)).reverse)))) with
    | true => (match calF (Trm 2) 229 [cR 170, cI t, cI b, cI e] h with
      | some (r, h2) => some (65 + 3, ls, r.toList ++ [], h2)
      | none => none)
    | false => none) = _
  rw [h5]
  dsimp only
  rw [cal_eq ht]
  rfl)

theorem ih_pre {ls : List (Nat × cV)} {h : List cC} (hG : HG TT [] h) (hJ : J9 h) {l so c a : Int32} (c0 : clk ls 0 = some (cR 170)) (c1 : clk ls 1 = some (cI l)) (c2 : clk ls 2 = some (cI so)) (c4 : clk ls 4 = some (cI a)) (c5 : clk ls 5 = some (cI c)) (hl : 0 ≤ l.toInt ∧ l.toInt ≤ 5) (hc : 0 ≤ c.toInt ∧ c.toInt ≤ 12) : Go (calF (Trm 2)) eM195 none (6, ls, [], h) (81, ls, [], h) ∨ (c.toInt ≤ 11 ∧ ∃ x : Int32, Go (calF (Trm 2)) eM195 none (6, ls, [], h) (75, (6, cI x) :: ls.filter (ckI 6), [], h)) ∨ (c.toInt ≤ 11 ∧ ∃ (x : Int32) (r : Int64) (h2 : List cC), Go (calF (Trm 2)) eM195 none (6, ls, [], h) (68, (4, cI (Int32.ofInt 1)) :: ((6, cI x) :: ls.filter (ckI 6)).filter (ckI 4), [cJ r], h2) ∧ HG TT [] h2 ∧ Fr PT9 rkW h h2 ∧ J9 h2) := by
  obtain ⟨vs, g1, g2⟩ := mod_at hG (j := 6) (k := 175) rfl
  obtain ⟨vs', g3, g4⟩ := mod_at hG (j := 5) (k := 174) rfl
  rw [g1] at g3
  cases g3
  obtain ⟨fs, r1, _⟩ := HG_row hG (k := 172) (kd := 0) (n := 2400) (d := (-2147483648, 2147483647)) rfl
  obtain ⟨fg, r2, b2⟩ := HG_row hG (k := 174) (kd := 0) (n := 216) (d := (0, 400)) rfl
  obtain ⟨fc, r3, b3⟩ := HG_row hG (k := 175) (kd := 0) (n := 6) (d := (0, 12)) rfl
  have hin : inB l 6 = true := decide_eq_true (show vp_in l 6 from vp_in_iff.mpr ⟨hl.1, by omega⟩)
  have pre : ∀ S : cS, Go (calF (Trm 2)) eM195 none (14, ls, [cI (fc l.toNatClampNeg), cI c], h) S → Go (calF (Trm 2)) eM195 none (6, ls, [], h) S := fun S hs => Go.step (o_iload (i := 5) rfl c5) (Go.step (o_aload_n (i := 0) rfl c0) (Go.step (o_get rfl rfl rfl g1 g2) (Go.step (o_iload_n (i := 1) rfl c1) (Go.step (o_iald rfl r3 hin) hs))))
  have el : l.toNatClampNeg = l.toInt.toNat := rfl
  by_cases hcc : (fc l.toNatClampNeg).toInt ≤ c.toInt
  · refine Or.inl (pre _ (Go.step (o_step (ins := .if_icmp .ge 67) (len := 3) rfl ?_) Go.rf))
    show kIc .ge 67 3 14 ls [cI (fc l.toNatClampNeg), cI c] h = _
    unfold kIc
    have hd : cDec .ge c (fc l.toNatClampNeg) = true := decide_eq_true (Int32.le_iff_toInt_le.mpr hcc)
    dsimp only
    rw [hd]
    rfl
  · have hb3 := b3 l.toInt.toNat (by omega)
    have hb3' := hb3.2
    dsimp only at hb3'
    have hc11 : c.toInt ≤ 11 := by rw [el] at hcc; omega
    have s14 : cOne (calF (Trm 2)) eM195 none (14, ls, [cI (fc l.toNatClampNeg), cI c], h) = some (17, ls, [], h) := o_step (ins := .if_icmp .ge 67) (len := 3) rfl (by
      show kIc .ge 67 3 14 ls [cI (fc l.toNatClampNeg), cI c] h = _
      unfold kIc
      have hd : cDec .ge c (fc l.toNatClampNeg) = false := decide_eq_false (fun z => hcc (Int32.le_iff_toInt_le.mp z))
      dsimp only
      rw [hd]
      rfl)
    generalize hat : (Int8.ofInt 36).toInt32 * l + Int32.ofInt 3 * c = at9
    have e36 : ((Int8.ofInt 36).toInt32).toInt = 36 := rfl
    have e3 : (Int32.ofInt 3).toInt = 3 := rfl
    have m1 : ((Int8.ofInt 36).toInt32 * l).toInt = 36 * l.toInt := by
      rw [Int32.toInt_mul, e36]
      exact bmod32 (by omega) (by omega)
    have m2 : (Int32.ofInt 3 * c).toInt = 3 * c.toInt := by
      rw [Int32.toInt_mul, e3]
      exact bmod32 (by omega) (by omega)
    have ma : at9.toInt = 36 * l.toInt + 3 * c.toInt := by
      rw [← hat, Int32.toInt_add, m1, m2]
      exact bmod32 (by omega) (by omega)
    have e1 : (Int32.ofInt 1).toInt = 1 := rfl
    have e2 : (Int32.ofInt 2).toInt = 2 := rfl
    have ma1 : (at9 + Int32.ofInt 1).toInt = 36 * l.toInt + 3 * c.toInt + 1 := by
      rw [Int32.toInt_add, ma, e1]
      exact bmod32 (by omega) (by omega)
    have ma2 : (at9 + Int32.ofInt 2).toInt = 36 * l.toInt + 3 * c.toInt + 2 := by
      rw [Int32.toInt_add, ma, e2]
      exact bmod32 (by omega) (by omega)
    have i0 : inB at9 216 = true := decide_eq_true (show vp_in at9 216 from vp_in_iff.mpr ⟨by omega, by omega⟩)
    have i1 : inB (at9 + Int32.ofInt 1) 216 = true := decide_eq_true (show vp_in _ 216 from vp_in_iff.mpr ⟨by omega, by omega⟩)
    have i2 : inB (at9 + Int32.ofInt 2) 216 = true := decide_eq_true (show vp_in _ 216 from vp_in_iff.mpr ⟨by omega, by omega⟩)
    have d0 : clk ((6, cI at9) :: ls.filter (ckI 6)) 0 = some (cR 170) := clk_st rfl rfl rfl c0
    have d1 : clk ((6, cI at9) :: ls.filter (ckI 6)) 1 = some (cI l) := clk_st rfl rfl rfl c1
    have d2 : clk ((6, cI at9) :: ls.filter (ckI 6)) 2 = some (cI so) := clk_st rfl rfl rfl c2
    have d6 : clk ((6, cI at9) :: ls.filter (ckI 6)) 6 = some (cI at9) := clk_hd
    have sadd : cOne (calF (Trm 2)) eM195 none (25, ls, [cI (Int32.ofInt 3 * c), cI ((Int8.ofInt 36).toInt32 * l)], h) = some (26, ls, [cI at9], h) := o_step (ins := .iadd) (len := 1) rfl (by rw [← hat]; rfl)
    have mid : ∀ S : cS, Go (calF (Trm 2)) eM195 none (36, (6, cI at9) :: ls.filter (ckI 6), [cI so, cI (fg at9.toNatClampNeg)], h) S → Go (calF (Trm 2)) eM195 none (6, ls, [], h) S := fun S hs => pre S (Go.step s14 (Go.step (o_step rfl rfl) (Go.step (o_iload_n (i := 1) rfl c1) (Go.step (o_step rfl rfl) (Go.step (o_step rfl rfl) (Go.step (o_iload (i := 5) rfl c5) (Go.step (o_step rfl rfl) (Go.step sadd (Go.step (o_step rfl rfl) (Go.step (o_aload_n (i := 0) rfl d0) (Go.step (o_get rfl rfl rfl g1 g4) (Go.step (o_iload (i := 6) rfl d6) (Go.step (o_iald rfl r2 i0) (Go.step (o_iload_n (i := 2) rfl d2) hs))))))))))))))
    by_cases hso : fg at9.toNatClampNeg = so
    · refine Or.inr (Or.inr ⟨hc11, at9, ?_⟩)
      obtain ⟨b, e, w1, w2, w3, w4, w5⟩ := hJ.2 fs fg fc r1 r2 r3 l.toInt.toNat c.toInt.toNat (by omega) (by omega) (by rw [el] at hcc; omega)
      have x1 : (fg (at9 + Int32.ofInt 1).toNatClampNeg).toInt = b := by
        rw [← w1]
        congr 2
        show (at9 + Int32.ofInt 1).toInt.toNat = _
        omega
      have x2 : (fg (at9 + Int32.ofInt 2).toNatClampNeg).toInt = e := by
        rw [← w2]
        congr 2
        show (at9 + Int32.ofInt 2).toInt.toNat = _
        omega
      obtain ⟨r, h2, t1, t2, t3, t4⟩ := rk_trm hG hJ r1 (t := l) (b := fg (at9 + Int32.ofInt 1).toNatClampNeg) (e := fg (at9 + Int32.ofInt 2).toNatClampNeg) hl (by omega) (by omega) (by omega) (by
        rw [x1, x2]
        have : ((e : Int) - (b : Int)).toNat = e - b := by omega
        rw [this]
        exact w5)
      refine ⟨r, h2, mid _ ?_, t2, t3, t4⟩
      have s36 : cOne (calF (Trm 2)) eM195 none (36, (6, cI at9) :: ls.filter (ckI 6), [cI so, cI (fg at9.toNatClampNeg)], h) = some (42, (6, cI at9) :: ls.filter (ckI 6), [], h) := o_step (ins := .if_icmp .eq 6) (len := 3) rfl (by
        show kIc .eq 6 3 36 _ [cI so, cI (fg at9.toNatClampNeg)] h = _
        unfold kIc
        have hd : cDec .eq (fg at9.toNatClampNeg) so = true := decide_eq_true hso
        dsimp only
        rw [hd]
        rfl)
      have q0 : clk ((4, cI (Int32.ofInt 1)) :: ((6, cI at9) :: ls.filter (ckI 6)).filter (ckI 4)) 0 = some (cR 170) := clk_st rfl rfl rfl d0
      have q1 : clk ((4, cI (Int32.ofInt 1)) :: ((6, cI at9) :: ls.filter (ckI 6)).filter (ckI 4)) 1 = some (cI l) := clk_st rfl rfl rfl d1
      have q6 : clk ((4, cI (Int32.ofInt 1)) :: ((6, cI at9) :: ls.filter (ckI 6)).filter (ckI 4)) 6 = some (cI at9) := clk_st rfl rfl rfl d6
      exact Go.step s36 (Go.step (o_step rfl rfl) (Go.step (o_step rfl rfl) (Go.step (o_aload_n (i := 0) rfl q0) (Go.step (o_iload_n (i := 1) rfl q1) (Go.step (o_aload_n (i := 0) rfl q0) (Go.step (o_get rfl rfl rfl g1 g4) (Go.step (o_iload (i := 6) rfl q6) (Go.step (o_step rfl rfl) (Go.step (o_step rfl rfl) (Go.step (o_iald rfl r2 i1) (Go.step (o_aload_n (i := 0) rfl q0) (Go.step (o_get rfl rfl rfl g1 g4) (Go.step (o_iload (i := 6) rfl q6) (Go.step (o_step rfl rfl) (Go.step (o_step rfl rfl) (Go.step (o_iald rfl r2 i2) (Go.step (o_rk g1 t1) Go.rf)))))))))))))))))
    · refine Or.inr (Or.inl ⟨hc11, at9, mid _ ?_⟩)
      have s36 : cOne (calF (Trm 2)) eM195 none (36, (6, cI at9) :: ls.filter (ckI 6), [cI so, cI (fg at9.toNatClampNeg)], h) = some (39, (6, cI at9) :: ls.filter (ckI 6), [], h) := o_step (ins := .if_icmp .eq 6) (len := 3) rfl (by
        show kIc .eq 6 3 36 _ [cI so, cI (fg at9.toNatClampNeg)] h = _
        unfold kIc
        have hd : cDec .eq (fg at9.toNatClampNeg) so = false := decide_eq_false hso
        dsimp only
        rw [hd]
        rfl)
      exact Go.step s36 (Go.step (o_step rfl rfl) Go.rf)
