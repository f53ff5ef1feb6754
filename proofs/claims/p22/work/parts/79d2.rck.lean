abbrev rkLs (s : aV) : List (Nat × aV) := [(0, .inl [170]), (1, .inr (.inl (.inr (0, 1, 0)))), (2, .inr (.inl (.inr (0, 1, 1)))), (3, .inr (.inl (.inr (0, 1, 2)))), (4, .inr (.inl (.inr (0, 1, 3)))), (5, s), (6, .inr (.inl (.inr (0, 1, 5))))]
abbrev rkL8 : List (Nat × aV) := [(0, .inl [170]), (1, .inr (.inl (.inr (0, 1, 0)))), (2, .inr (.inl (.inr (0, 1, 1)))), (3, .inr (.inl (.inr (0, 1, 2)))), (4, .inr (.inl (.inr (1, 1, 3))))]
theorem rk_go {n0 : Nat} {s : aV} {B B2 : List eP} {dc : Int} {m m2 : aX × aX × aX} (hO : Obl P9 rkW 1 eM229 n0 [] [((8, rkL8, [], [(170, 24, .inr (.inl (.inr (dc, 1, 4))))], B2, []), m2)] ((49, rkLs s, [], [(170, 24, .inr (.inl (.inr (0, 1, 4))))], B, []), m)) {ls : List (Nat × cV)} {h : List cC} (hG : HG TT [] h) (hJ : J9 h) {t b e i d x : Int32} (ha : At8 ls h t b e i d) {ex : List Int} (hn : ([t.toInt, b.toInt, e.toInt, i.toInt, d.toInt] ++ ((x >>> (4 &&& 31)).toInt :: ex)).length = n0) (hB : okB ([t.toInt, b.toInt, e.toInt, i.toInt, d.toInt] ++ ((x >>> (4 &&& 31)).toInt :: ex)) B) (hs : vV ([t.toInt, b.toInt, e.toInt, i.toInt, d.toInt] ++ ((x >>> (4 &&& 31)).toInt :: ex)) s (cI (x &&& 15))) : ∃ (ls2 : List (Nat × cV)) (h2 : List cC) (i2 d2 : Int32), Go (calF (Trm 1)) eM229 none (49, (6, cI (x >>> (4 &&& 31))) :: ((5, cI (x &&& 15)) :: ls.filter (ckI 5)).filter (ckI 6), [], h) (8, ls2, [], h2) ∧ HG TT [] h2 ∧ Fr PT9 rkW h h2 ∧ J9 h2 ∧ At8 ls2 h2 t b e i2 d2 ∧ i2.toInt = 1 + i.toInt ∧ d2.toInt = dc + d.toInt := by
  obtain ⟨c0, c1, c2, c3, c4, ci, vs, c5, c6⟩ := ha
  have ha : At8 ls h t b e i d := ⟨c0, c1, c2, c3, c4, ci, vs, c5, c6⟩
  obtain ⟨S2, ρ2, z1, z2, z3, z4, z5, z6, z7, z8, z9, z10⟩ := Obl_one hO hn (S := (49, (6, cI (x >>> (4 &&& 31))) :: ((5, cI (x &&& 15)) :: ls.filter (ckI 5)).filter (ckI 6), [], h)) rfl hG hB (fun q hq => by cases hq) (fun q hq => by
    simp only [List.mem_cons, List.not_mem_nil, or_false] at hq
    rcases hq with rfl | rfl | rfl | rfl | rfl | rfl | rfl
    · exact ⟨_, rk_ls ha rfl rfl rfl rfl rfl c0, 170, List.mem_singleton.mpr rfl, rfl⟩
    · exact ⟨_, rk_ls ha rfl rfl rfl rfl rfl c1, vxs rfl⟩
    · exact ⟨_, rk_ls ha rfl rfl rfl rfl rfl c2, vxs rfl⟩
    · exact ⟨_, rk_ls ha rfl rfl rfl rfl rfl c3, vxs rfl⟩
    · exact ⟨_, rk_ls ha rfl rfl rfl rfl rfl c4, vxs rfl⟩
    · exact ⟨_, clk_st rfl rfl rfl clk_hd, hs⟩
    · exact ⟨_, clk_hd, vxs rfl⟩) trivial (fun q hq => by
    have e := List.mem_singleton.mp hq
    subst e
    exact ⟨ci, vs, _, c5, c6, vxs rfl⟩) hJ
  obtain ⟨Spc, Sls, Sst, Sh⟩ := S2
  dsimp only at z1 z2 z3 z4 z5 z6 z7 z8 z9 z10
  have e2 : Sst = [] := by
    cases Sst with
    | nil => rfl
    | cons _ _ => exact z9.elim
  subst z4 e2
  obtain ⟨i2, d2, y1, y2, y3⟩ := At_of z7 z8 z10
  exact ⟨Sls, Sh, i2, d2, z1, z5, z2, z3, y1, y2, y3⟩
theorem rk_oN : Obl P9 rkW 1 eM229 6 rkNU rkNT rkNA := chkL_ok J9_ok rk_q rkN_k
theorem rk_oW : Obl P9 rkW 1 eM229 6 rkW1U rkW1T rkW1A := chkL_ok J9_ok rk_q rkW1_k
theorem rk_oT : Obl P9 rkW 1 eM229 6 rkTU rkTT rkTA := chkL_ok J9_ok rk_q rkT_k
theorem rk_oB : Obl P9 rkW 1 eM229 7 rkBU rkBT rkBA := chkL_ok J9_ok rk_q rkB_k
theorem rk_oC : Obl P9 rkW 1 eM229 7 rkCU rkCT rkCA := chkL_ok J9_ok rk_q rkC_k
theorem rk_oE : Obl P9 rkW 1 eM229 0 rkEU rkET rkEA := chkL_ok J9_ok rk_q rkE_k
theorem sub_rk : subW rkW rkW = true := rfl
theorem rk_loop {f : Nat → Int32} {t : Int32} (ht : 0 ≤ t.toInt ∧ t.toInt ≤ 5) : ∀ (n : Nat) (b e i d : Int32) (ls : List (Nat × cV)) (h h0 : List cC), HG TT [] h → Fr PT9 rkW h0 h → J9 h → h[172]? = some (.inr (.inl (0, 2400, f))) → At8 ls h t b e i d → (0 ≤ b.toInt ∧ b.toInt ≤ 400) → 0 ≤ i.toInt → e.toInt ≤ 400 → (0 ≤ d.toInt ∧ d.toInt ≤ 64) → e.toInt - i.toInt = (n : Int) → dep f (400 * t.toInt.toNat + i.toInt.toNat) n d.toInt.toNat = some 1 → ∃ (S2 : cS) (r : Int64), Go (calF (Trm 1)) eM229 none (8, ls, [], h) S2 ∧ cEnd eM229 S2 = some (some (cJ r), S2.2.2.2) ∧ HG TT [] S2.2.2.2 ∧ Fr PT9 rkW h0 S2.2.2.2 ∧ J9 S2.2.2.2
  | 0, b, e, i, d, ls, h, h0, hG, hFr, hJ, hs, ha, hb, hi, he, hd, hn, hdep => by
    have hd1 : d.toInt = 1 := by
      unfold dep at hdep
      have := Option.some.inj hdep
      omega
    obtain ⟨c0, c1, c2, c3, c4, ci, vs, c5, c6⟩ := ha
    have hc : cDec .ge i e = true := decide_eq_true (Int32.le_iff_toInt_le.mpr (by omega))
    have s11 : cOne (calF (Trm 1)) eM229 none (11, ls, [cI e, cI i], h) = some (135, ls, [], h) := o_step (ins := .if_icmp .ge 124) (len := 3) rfl (by
      show kIc .ge 124 3 11 ls [cI e, cI i] h = _
      unfold kIc
      dsimp only
      rw [hc]
      rfl)
    obtain ⟨S2, g1, g2, g3⟩ := rk_oE [] rfl h [] (135, ls, [], h) rfl hG bnil ⟨List.prefix_rfl, (fun q hq => by cases hq)⟩ (fun q hq => by
      have e := List.mem_singleton.mp hq
      subst e
      exact ⟨_, c0, 170, List.mem_singleton.mpr rfl, rfl⟩) trivial (fun q hq => by
      have e := List.mem_singleton.mp hq
      subst e
      exact ⟨ci, vs, _, c5, c6, d, rfl, hd1⟩) ⟨Fr.rf, hJ⟩
    rcases g3 with ⟨l2, q1, _⟩ | ⟨r, q1, q2, o, o1, ρ', o2, o3, o4, o5⟩
    · cases q1
    · have eo := List.mem_singleton.mp o1
      subst eo
      cases r with
      | none => exact o5.elim
      | some v =>
        obtain ⟨x, ex, _⟩ := o5
        subst ex
        exact ⟨S2, x, Go.step (o_iload (i := 4) rfl c4) (Go.step (o_iload_n (i := 3) rfl c3) (Go.step s11 g1)), q1, q2, Fr.tr sub_rk hFr g2.1, g2.2⟩
  | n + 1, b, e, i, d, ls, h, h0, hG, hFr, hJ, hs, ha, hb, hi, he, hd, hn, hdep => by
    obtain ⟨x, hx, g1⟩ := rk_pre (call := calF (Trm 1)) hG hs ha ht hi (by omega) he
    have hx15 := and15 x
    have hdm : bt2 (0, 399) i.toInt := ⟨by show (0 : Int) ≤ _; omega, by show _ ≤ (399 : Int); omega⟩
    have h4 : bt2 (0, 5) t.toInt ∧ bt2 (0, 400) b.toInt ∧ bt2 (0, 400) e.toInt := ⟨⟨ht.1, ht.2⟩, ⟨hb.1, hb.2⟩, ⟨by show (0 : Int) ≤ _; omega, he⟩⟩
    unfold dep at hdep
    rw [← hx] at hdep
    have fin : ∀ (dc : Int) (d3 : Nat), sOp x d.toInt.toNat = some d3 → (d3 : Int) = dc + d.toInt → 0 ≤ dc + d.toInt → dc + d.toInt ≤ 64 → (∃ (ls2 : List (Nat × cV)) (h2 : List cC) (i2 d2 : Int32), Go (calF (Trm 1)) eM229 none (49, (6, cI (x >>> (4 &&& 31))) :: ((5, cI (x &&& 15)) :: ls.filter (ckI 5)).filter (ckI 6), [], h) (8, ls2, [], h2) ∧ HG TT [] h2 ∧ Fr PT9 rkW h h2 ∧ J9 h2 ∧ At8 ls2 h2 t b e i2 d2 ∧ i2.toInt = 1 + i.toInt ∧ d2.toInt = dc + d.toInt) → ∃ (S2 : cS) (r : Int64), Go (calF (Trm 1)) eM229 none (8, ls, [], h) S2 ∧ cEnd eM229 S2 = some (some (cJ r), S2.2.2.2) ∧ HG TT [] S2.2.2.2 ∧ Fr PT9 rkW h0 S2.2.2.2 ∧ J9 S2.2.2.2 := fun dc d3 h1 h2 h3 h3' ⟨ls2, hh, i2, d2, z1, z2, z3, z4, z5, z6, z7⟩ => by
      rw [h1] at hdep
      dsimp only at hdep
      obtain ⟨S2, r, y1, y2⟩ := rk_loop ht n b e i2 d2 ls2 hh h0 z2 (Fr.tr sub_rk hFr z3) z4 (Fr_row z3 rfl hs) z5 hb (by omega) he (by omega) (by omega) (by
        have e1 : 400 * t.toInt.toNat + i2.toInt.toNat = 400 * t.toInt.toNat + i.toInt.toNat + 1 := by omega
        have e2 : d2.toInt.toNat = d3 := by omega
        rw [e1, e2]
        exact hdep)
      exact ⟨S2, r, g1.trans (z1.trans y1), y2⟩
    by_cases s0 : (x &&& 15).toInt = 0
    · by_cases hl : d.toInt.toNat < 64
      · exact fin 1 (d.toInt.toNat + 1) (by unfold sOp; rw [if_pos s0, if_pos hl]) (by omega) (by omega) (by omega) (rk_go rk_oN hG hJ ha (ex := []) rfl (bcons h4.1 (bcons h4.2.1 (bcons h4.2.2 (bcons hdm (bcons ⟨hd.1, by show _ ≤ (63 : Int); omega⟩ (bcons (in_f32 _) bnil)))))) ⟨_, rfl, s0⟩)
      · exfalso
        unfold sOp at hdep
        rw [if_pos s0, if_neg hl] at hdep
        cases hdep
    · by_cases s1 : (x &&& 15).toInt = 1
      · by_cases hl : d.toInt.toNat < 64 ∧ 0 ≤ (x >>> (4 &&& 31)).toInt ∧ (x >>> (4 &&& 31)).toInt ≤ 8
        · exact fin 1 (d.toInt.toNat + 1) (by unfold sOp; rw [if_neg s0, if_pos s1, if_pos hl]) (by omega) (by omega) (by omega) (rk_go rk_oW hG hJ ha (ex := []) rfl (bcons h4.1 (bcons h4.2.1 (bcons h4.2.2 (bcons hdm (bcons ⟨hd.1, by show _ ≤ (63 : Int); omega⟩ (bcons ⟨hl.2.1, hl.2.2⟩ bnil)))))) ⟨_, rfl, s1⟩)
        · exfalso
          unfold sOp at hdep
          rw [if_neg s0, if_pos s1, if_neg hl] at hdep
          cases hdep
      · by_cases s11 : (x &&& 15).toInt = 11
        · by_cases hl : 1 ≤ d.toInt.toNat
          · exact fin 0 d.toInt.toNat (by unfold sOp; rw [if_neg s0, if_neg s1, if_pos s11, if_pos hl]) (by omega) (by omega) (by omega) (rk_go rk_oT hG hJ ha (ex := []) rfl (bcons h4.1 (bcons h4.2.1 (bcons h4.2.2 (bcons hdm (bcons ⟨by show (1 : Int) ≤ _; omega, hd.2⟩ (bcons (in_f32 _) bnil)))))) ⟨_, rfl, s11⟩)
          · exfalso
            unfold sOp at hdep
            rw [if_neg s0, if_neg s1, if_pos s11, if_neg hl] at hdep
            cases hdep
        · by_cases hl : 2 ≤ d.toInt.toNat
          · by_cases s10 : (x &&& 15).toInt ≤ 10
            · exact fin (-1) (d.toInt.toNat - 1) (by unfold sOp; rw [if_neg s0, if_neg s1, if_neg s11, if_pos hl]) (by omega) (by omega) (by omega) (rk_go rk_oB hG hJ ha (ex := [(x &&& 15).toInt]) rfl (bcons h4.1 (bcons h4.2.1 (bcons h4.2.2 (bcons hdm (bcons ⟨by show (2 : Int) ≤ _; omega, hd.2⟩ (bcons (in_f32 _) (bcons ⟨by show (2 : Int) ≤ _; omega, s10⟩ bnil))))))) (vxs rfl))
            · exact fin (-1) (d.toInt.toNat - 1) (by unfold sOp; rw [if_neg s0, if_neg s1, if_neg s11, if_pos hl]) (by omega) (by omega) (by omega) (rk_go rk_oC hG hJ ha (ex := [(x &&& 15).toInt]) rfl (bcons h4.1 (bcons h4.2.1 (bcons h4.2.2 (bcons hdm (bcons ⟨by show (2 : Int) ≤ _; omega, hd.2⟩ (bcons (in_f32 _) (bcons ⟨by show (12 : Int) ≤ _; omega, hx15.2⟩ bnil))))))) (vxs rfl))
          · exfalso
            unfold sOp at hdep
            rw [if_neg s0, if_neg s1, if_neg s11, if_neg hl] at hdep
            cases hdep
