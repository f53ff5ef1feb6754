/-! THE WAY, 5: tellsOn, whole -/
abbrev teB6 : List eP := [(0, 30), (0, 99), (0, 5), (0, 9), (0, 9), (0, 1)]
abbrev teLs : List (Nat × aV) := [(0, .inl [170]), (1, .inr (.inl (.inr (0, 1, 0)))), (2, .inr (.inl (.inr (0, 1, 1)))), (4, .inr (.inl (.inr (0, 1, 3)))), (5, .inr (.inl (.inr (0, 1, 4)))), (6, .inr (.inl (.inr (0, 1, 5))))]
abbrev tlA : aL := ((27, [(0, .inl [170]), (1, .inr (.inl (.inr (0, 1, 0)))), (2, .inr (.inl (.inr (0, 1, 1)))), (3, .inr (.inl (.inr (0, 1, 2)))), (4, .inr (.inl (.inr (0, 1, 3)))), (5, .inr (.inl (.inr (0, 1, 4)))), (6, .inr (.inl (.inr (0, 1, 5))))], [], [], teB6, []), (.inl 2, .inl 0, .inl 0))
abbrev tlB : aL := ((93, teLs, [], [], teB6, []), (.inl 1, .inl 0, .inl 0))
abbrev tlC : aL := ((113, teLs, [], [], teB6, []), (.inl 2, .inl 0, .inl 0))
abbrev tlD : aL := ((127, teLs, [], [], teB6, []), (.inl 1, .inl 0, .inl 0))
abbrev teW : aW := [(170, 24), (181, 1000), (182, 1000)]
abbrev teV : aW := [(194, 1000)]
abbrev tlW : aW := [(170, 24), (181, 1000), (182, 1000), (188, 1000), (189, 1000), (190, 1000), (191, 1000), (194, 1000), (195, 1000), (196, 1000)]
set_option maxRecDepth 1000000 in
theorem tlA_k : chkL P39 teW (mkQ P39 teW [zn155, zn179, zn180] 3000 1) eM245 6 [tlB] [(none, [], teB6, [])] 3000 tlA = true := by decide +kernel
set_option maxRecDepth 1000000 in
theorem tlC_k : chkL P39 teV (mkQ P39 teV [] 3000 0) eM245 6 [tlD] [] 3000 tlC = true := by decide +kernel
theorem te_at {ls : List (Nat × cV)} {ρ : List Int} {t hr lw f p se : Int32} (hL : okL ρ teLs ls) (hp : [t.toInt, hr.toInt, lw.toInt, f.toInt, p.toInt, se.toInt] <+: ρ) : LT ls t hr f p se := by
  have q : ∀ (j i : Nat) (x : Int32), (j, (.inr (.inl (.inr (0, 1, i))) : aV)) ∈ teLs → [t.toInt, hr.toInt, lw.toInt, f.toInt, p.toInt, se.toInt][i]? = some x.toInt → clk ls j = some (cI x) := fun j i x hm hx => by
    obtain ⟨y, y1, y2⟩ := vL hL hm (at_mono hp hx)
    rw [y1]
    have : y = x := Int32.toInt_inj.mp (by omega)
    rw [this]
  exact ⟨vR hL (List.mem_of_getElem? (i := 0) rfl), q 1 0 t (List.mem_of_getElem? (i := 1) rfl) rfl, q 2 1 hr (List.mem_of_getElem? (i := 2) rfl) rfl, q 4 3 f (List.mem_of_getElem? (i := 3) rfl) rfl, q 5 4 p (List.mem_of_getElem? (i := 4) rfl) rfl, q 6 5 se (List.mem_of_getElem? (i := 5) rfl) rfl⟩
theorem te_of {ls : List (Nat × cV)} {t hr lw f p se : Int32} (hl : LT ls t hr f p se) : okL [t.toInt, hr.toInt, lw.toInt, f.toInt, p.toInt, se.toInt] teLs ls := fun q hq => by
  obtain ⟨h0, h1, h2, h4, h5, h6⟩ := hl
  simp only [teLs, List.mem_cons, List.not_mem_nil, or_false] at hq
  rcases hq with rfl | rfl | rfl | rfl | rfl | rfl
  · exact ⟨_, h0, 170, List.mem_singleton.mpr rfl, rfl⟩
  · exact ⟨_, h1, vxs rfl⟩
  · exact ⟨_, h2, vxs rfl⟩
  · exact ⟨_, h4, vxs rfl⟩
  · exact ⟨_, h5, vxs rfl⟩
  · exact ⟨_, h6, vxs rfl⟩
theorem o_bast2 {call : cCl} {M : eM} {pc : Nat} {ls : List (Nat × cV)} {st : List cV} {h : List cC} {k n : Nat} {f : Nat → Int32} {i x : Int32} (hf : fnd (m_il M) pc = some (.bastore, 1)) (hk : h[k]? = some (.inr (.inl (2, n, f)))) (hi : inB i n = true) : cOne call M none (pc, ls, cI x :: cI i :: cR k :: st, h) = some (pc + 1, ls, st, h.set k (.inr (.inl (2, n, upd f i.toNatClampNeg (vp_nar .boolean x))))) := o_step hf (by
  show kBast 1 pc ls (cI x :: cI i :: cR k :: st) h = _
  unfold kBast
  dsimp only
  rw [hk]
  exact cNx_t (by rw [hi]; rfl))
/-- from the mark on: the talk is told -/
theorem te_end {fw fm fn f : Nat → Int32} {fo mn T F P : Nat} {t hr lw : Int32} {ls : List (Nat × cV)} {h : List cC} (hG : HG TT [] h) (hJ : J9 h) (hk : RX fw fm fn f fo mn h) (ht : t.toInt = T) (hT : T < mn) (hF : (fw T).toInt = F) (hF9 : F < 10) (hP : (fm T).toInt = P) (hP9 : P < 10) (hn : fn T = hr) (h0 : 0 < hr.toInt) (h9 : hr.toInt ≤ 99) (hlw : 0 ≤ lw.toInt ∧ lw.toInt ≤ 5) (hl : LT ls t hr (fw T) (fm T) (ofF (Int32.ofNat fo) (fw T))) : ∃ (pc : Nat) (ls2 : List (Nat × cV)) (h2 : List cC), Go (calF (Trm 5)) eM245 none (93, ls, [], h) (pc, ls2, [], h2) ∧ cEnd eM245 (pc, ls2, [], h2) = some (none, h2) ∧ HG TT [] h2 ∧ Fr PT9 tlW h h2 ∧ J9 h2 ∧ RX fw fm fn f fo mn h2 := by
  obtain ⟨kT, ft, fr, k2, k3, k4⟩ := hk
  obtain ⟨c0, c1, c2, c4, c5, c6⟩ := hl
  obtain ⟨vs, m1, _⟩ := mo_at hG
  have m42 := mo_j hG m1 (j := 42) (k := 196) rfl
  have hmn : mn ≤ 31 := kT.2.2.2.2.2.2.1
  have hfo : fo < 1024 := kT.2.2.2.2.2.2.2.1
  obtain ⟨i1, i2⟩ := in_B (n := 31) ht (by omega)
  have hb : vp_nar .boolean (Int32.ofInt 1) = Int32.ofInt 1 := rfl
  have s99 : ∀ st : List cV, cOne (calF (Trm 5)) eM245 none (99, ls, cI (Int32.ofInt 1) :: cI t :: cR 196 :: st, h) = some (100, ls, st, h.set 196 (.inr (.inl (2, 31, upd ft T (Int32.ofInt 1))))) := fun st => by
    have := o_bast2 (call := calF (Trm 5)) (M := eM245) (pc := 99) (ls := ls) (st := st) (x := Int32.ofInt 1) rfl k2 i1
    rw [i2, hb] at this
    exact this
  have g1 : HG TT [] (h.set 196 (.inr (.inl (2, 31, upd ft T (Int32.ofInt 1))))) := HG_putI (k := 196) (kd := 2) (n := 31) (d := (0, 1)) (gs := []) (f := ft) (i := T) (x := Int32.ofInt 1) hG rfl k2 ⟨by decide, by decide⟩ (fun q hq => by cases hq) (fun j => by
    by_cases hj : j = T
    · exact Or.inr ⟨hj, by rw [hj, pk_us]⟩
    · exact Or.inl (pk_un hj))
  have J1 : J9 (h.set 196 (.inr (.inl (2, 31, upd ft T (Int32.ofInt 1))))) := J9_ok h _ (fun k hk => List.getElem?_set_ne (fun e => by subst e; exact absurd hk (by decide))) hJ
  have F1 : Fr PT9 tlW h (h.set 196 (.inr (.inl (2, 31, upd ft T (Int32.ofInt 1))))) := Fr.rf.set k2 ⟨_, rfl, fun z => inW_ne (W := tlW) (k := 196) (j := 1000) rfl z, pNo_stay rfl _ _⟩
  have R1 : RX fw fm fn f fo mn (h.set 196 (.inr (.inl (2, 31, upd ft T (Int32.ofInt 1))))) := by
    obtain ⟨t1, t2, t3, t4, t5, t6, t7⟩ := kT
    refine ⟨⟨rw_ne (by decide) t1, rw_ne (by decide) t2, rw_ne (by decide) t3, rw_ne (by decide) t4, fv_row (by decide) t5, fv_row (by decide) t6, t7⟩, _, fr, rw_eq k2, rw_ne (by decide) k3, fun p r hp hr h3 => ?_⟩
    obtain ⟨a1, a2⟩ := k4 p r hp hr h3
    refine ⟨a1, HasWay_mono (fun x hx => ?_) a2⟩
    by_cases e : x.toNat = T
    · rw [e, pk_us]
      decide
    · rw [pk_un e]
      exact hx
  have n1 : (h.set 196 (.inr (.inl (2, 31, upd ft T (Int32.ofInt 1)))))[170]? = some (.inl (12, vs)) := rw_ne (by decide) m1
  have r196 : (h.set 196 (.inr (.inl (2, 31, upd ft T (Int32.ofInt 1)))))[196]? = some (.inr (.inl (2, 31, upd ft T (Int32.ofInt 1)))) := rw_eq k2
  generalize hh1 : h.set 196 (.inr (.inl (2, 31, upd ft T (Int32.ofInt 1)))) = h1 at s99 g1 J1 F1 R1 n1 r196
  have t183 := R1.1.2.2.2.1
  have s106 : cOne (calF (Trm 5)) eM245 none (106, ls, [cI hr, cI (fw T), cI (fm T), cR 170], h1) = some (109, ls, [cI (hrF f (fm T) (fw T) hr)], h1) := gh_inv (d := 5) (mi := 187) (N := eM187) (pc := 106) (ls := ls) (st := [cI hr, cI (fw T), cI (fm T), cR 170]) (r := some (cI (hrF f (fm T) (fw T) hr))) rfl rfl rfl rfl rfl (by show recC h1 12 [cR 170, cI (fm T), cI (fw T), cI hr] = true; unfold recC; dsimp only; rw [n1]; rfl) (Trm_le (by decide) (he_trm g1 t183 (fm T) (fw T) hr))
  have pre : ∀ S : cS, Go (calF (Trm 5)) eM245 none (109, ls, [cI (hrF f (fm T) (fw T) hr)], h1) S → Go (calF (Trm 5)) eM245 none (93, ls, [], h) S := fun S hs => Go.step (o_aload_n (i := 0) rfl c0) (Go.step (o_get rfl rfl rfl m1 m42) (Go.step (o_iload_n (i := 1) rfl c1) (Go.step (o_step rfl rfl) (Go.step (s99 _) (Go.step (o_aload_n (i := 0) rfl c0) (Go.step (o_iload rfl c5) (Go.step (o_iload rfl c4) (Go.step (o_iload_n (i := 2) rfl c2) (Go.step s106 hs)))))))))
  by_cases q1 : hrF f (fm T) (fw T) hr = 0
  · have q1d : cDec .ne (hrF f (fm T) (fw T) hr) 0 = false := decide_eq_false (fun z => z q1)
    exact ⟨112, ls, h1, pre _ (Go.step (o_if_f (t := 113) rfl rfl q1d) Go.rf), rfl, g1, F1, J1, R1⟩
  · have q1d : cDec .ne (hrF f (fm T) (fw T) hr) 0 = true := decide_eq_true q1
    have hse : 0 ≤ (ofF (Int32.ofNat fo) (fw T)).toInt ∧ (ofF (Int32.ofNat fo) (fw T)).toInt ≤ 1 := by
      unfold ofF
      split
      · exact ⟨by decide, by decide⟩
      · exact ⟨by decide, by decide⟩
    have hQ : Qok P9 teV 5 (mkQ P39 teV [] 3000 0) := Qok_le (by decide) (mkQ_ok J9_ok (d := 0) cs_nil 3000 0)
    have hB : okB [t.toInt, hr.toInt, lw.toInt, (fw T).toInt, (fm T).toInt, (ofF (Int32.ofNat fo) (fw T)).toInt] teB6 := bcons ⟨by show (0 : Int) ≤ _; omega, by show _ ≤ (30 : Int); omega⟩ (bcons ⟨by show (0 : Int) ≤ _; omega, by show _ ≤ (99 : Int); omega⟩ (bcons ⟨by show (0 : Int) ≤ _; omega, by show _ ≤ (5 : Int); omega⟩ (bcons ⟨by show (0 : Int) ≤ _; omega, by show _ ≤ (9 : Int); omega⟩ (bcons ⟨by show (0 : Int) ≤ _; omega, by show _ ≤ (9 : Int); omega⟩ (bcons ⟨hse.1, hse.2⟩ bnil)))))
    obtain ⟨S2, ρ2, y1, y2, y3, y4, y5, y6, y7, y8, y9, y10⟩ := Obl_one (chkL_ok (P := P9) J9_ok hQ tlC_k) (ρ := [t.toInt, hr.toInt, lw.toInt, (fw T).toInt, (fm T).toInt, (ofF (Int32.ofNat fo) (fw T)).toInt]) rfl (S := (113, ls, [], h1)) rfl g1 hB (fun q hq => by cases hq) (te_of ⟨c0, c1, c2, c4, c5, c6⟩) trivial (fun q hq => by cases hq) J1
    obtain ⟨S2pc, ls2, st2, h2⟩ := S2
    dsimp only at y1 y2 y3 y4 y5 y8 y9 y10
    have e2 : st2 = [] := by
      cases st2 with
      | nil => rfl
      | cons _ _ => exact y9.elim
    subst y4 e2
    have F2' : Fr PT9 teV h1 h2 := y2
    have J2 : J9 h2 := y3
    have G2 : HG TT [] h2 := y5
    obtain ⟨d0, d1, d2, d4, d5, d6⟩ := te_at y8 y7
    have R2 : RX fw fm fn f fo mn h2 := RX_keep F2' ⟨rfl, rfl, rfl, rfl, rfl, rfl⟩ ⟨rfl, rfl⟩ R1
    have F2 : Fr PT9 tlW h h2 := Fr.tr (W2 := teV) rfl F1 F2'
    have r2 : h2[196]? = some (.inr (.inl (2, 31, upd ft T (Int32.ofInt 1)))) := Fr_row F2' rfl r196
    obtain ⟨us, p1, _⟩ := mo_at G2
    obtain ⟨x, x1, x2⟩ := fv_at p1 R2.1.2.2.2.2.2.1
    have ex : x = Int32.ofNat fo := i32_nat x2
    subst ex
    have eP : fm T = Int32.ofNat P := i32_nat hP
    have eF : fw T = Int32.ofNat F := i32_nat hF
    have hof := ofF_of (x := fo) (k := P) hfo hP9
    rw [← eP] at hof
    have hof2 := ofF_of (x := fo) (k := F) hfo hF9
    rw [← eF] at hof2
    have s133 : cOne (calF (Trm 5)) eM245 none (133, ls2, [cI (fm T), cI (Int32.ofNat fo)], h2) = some (136, ls2, [cI (ofF (Int32.ofNat fo) (fm T))], h2) := gh_st (d := 5) (mi := 201) (N := eM201) (pc := 133) (ls := ls2) (st := [cI (fm T), cI (Int32.ofNat fo)]) (r := some (cI (ofF (Int32.ofNat fo) (fm T)))) rfl rfl rfl rfl rfl (Trm_le (by decide) (of_trm _ _))
    have pre2 : ∀ S : cS, Go (calF (Trm 5)) eM245 none (136, ls2, [cI (ofF (Int32.ofNat fo) (fm T))], h2) S → Go (calF (Trm 5)) eM245 none (93, ls, [], h) S := fun S hs => pre _ (Go.step (o_if_t (t := 113) rfl rfl q1d) (y1.trans (Go.step (o_aload_n (i := 0) rfl d0) (Go.step (o_get rfl rfl rfl p1 x1) (Go.step (o_iload rfl d5) (Go.step s133 hs))))))
    cases hbP : bOf fo P with
    | true =>
      rw [hbP] at hof
      have q2d : cDec .eq (ofF (Int32.ofNat fo) (fm T)) 0 = false := by rw [hof]; decide
      exact ⟨139, ls2, h2, pre2 _ (Go.step (o_if_f (t := 140) rfl rfl q2d) Go.rf), rfl, G2, F2, J2, R2⟩
    | false =>
      rw [hbP] at hof
      have q2d : cDec .eq (ofF (Int32.ofNat fo) (fm T)) 0 = true := by rw [hof]; decide
      have hTK : TK fw fm fn f fo mn T F P hr := ⟨hT, hF, hF9, hP, hP9, hn, by rw [hn]; exact q1, hbP⟩
      have st7 : ∀ (L : List (Nat × cV)) (hh : List cC), LT L t hr (fw T) (fm T) (ofF (Int32.ofNat fo) (fw T)) → Go (calF (Trm 5)) eM245 none (156, L, [], hh) (159, (7, cI (Int32.ofInt 0)) :: L.filter (ckI 7), [], hh) := fun L hh hL => Go.step (o_step rfl rfl) (Go.step (o_ist rfl rfl) Go.rf)
      cases hbF : bOf fo F with
      | true =>
        rw [hbF] at hof2
        have q3d : cDec .eq (ofF (Int32.ofNat fo) (fw T)) 0 = false := by rw [hof2]; decide
        obtain ⟨k1, k5, k6, k7⟩ := sh_k hF9
        have hFP : F ≠ P := fun e => by rw [e, hbP] at hbF; cases hbF
        rw [← eF] at k1
        obtain ⟨h3, w1, w2, w3, w4, w5⟩ := ga_ok G2 J2 R2 (p := fm T) (r := Int32.ofInt 1 <<< (fw T &&& 31)) (hr := hr) (P := P) (R := 1 <<< F) hP hP9 (by rw [k1]; exact nat_i (by omega)) k5 h0 h9 (by
          rw [k7 P hP9]
          cases z : Nat.beq P F with
          | false => rfl
          | true => exact absurd (nbeq_t z).symm hFP) (fun ft' hft => by
          rw [r2] at hft
          cases hft
          have hh := HasWay_one (who := fun t => (fw t.toNat).toInt) (whom := fun t => (fm t.toNat).toInt) (whn := fun t => (fn t.toNat).toInt) (told := fun t => upd ft T (Int32.ofInt 1) t.toNat ≠ 0) (hrs := fun t => hrF f (fm t.toNat) (fw t.toNat) (fn t.toNat) ≠ 0) (fst := fun x => bOf fo x.toNat = true) (many := (mn : Int)) (t := (T : Int)) (by omega) (by omega) (by (try dsimp only); rw [Int.toNat_natCast, pk_us]; decide) (by (try dsimp only); rw [Int.toNat_natCast, hn]; exact q1) (by (try dsimp only); rw [Int.toNat_natCast, hF, Int.toNat_natCast]; exact hbF) (by (try dsimp only); rw [Int.toNat_natCast, hP, Int.toNat_natCast, hbP]; exact Bool.false_ne_true) (S := fun x => bOf (1 <<< F) x.toNat = true) (by (try dsimp only); rw [Int.toNat_natCast, hF, Int.toNat_natCast, k7 F hF9]; exact Nat.beq_refl _)
          try dsimp only at hh
          rw [Int.toNat_natCast, hP, hn] at hh
          unfold WY
          rw [k6]
          exact hh)
        have s153 : cOne (calF (Trm 5)) eM245 none (153, ls2, [cI hr, cI (Int32.ofInt 1 <<< (fw T &&& 31)), cI (fm T), cR 170], h2) = some (156, ls2, [], h3) := gh_inv (d := 5) (mi := 182) (N := eM182) (pc := 153) (ls := ls2) (st := [cI hr, cI (Int32.ofInt 1 <<< (fw T &&& 31)), cI (fm T), cR 170]) (r := none) rfl rfl rfl rfl rfl (by show recC h2 12 [cR 170, cI (fm T), cI (Int32.ofInt 1 <<< (fw T &&& 31)), cI hr] = true; unfold recC; dsimp only; rw [p1]; rfl) (Trm_le (by decide) w1)
        have l6 := LT_st (i := 7) ⟨d0, d1, d2, d4, d5, d6⟩ (Or.inl rfl) (cI (Int32.ofInt 0))
        have q4d : cDec .ge (Int32.ofInt 0) (Int16.ofInt 1024).toInt32 = false := by decide
        have q5d : cDec .ne (ofF (Int32.ofNat fo) (fw T)) 0 = true := by rw [hof2]; decide
        exact ⟨229, _, h3, pre2 _ (Go.step (o_if_t (t := 140) rfl rfl q2d) (Go.step (o_iload rfl d6) (Go.step (o_if_f (t := 156) rfl rfl q3d) (Go.step (o_aload_n (i := 0) rfl d0) (Go.step (o_iload rfl d5) (Go.step (o_step rfl rfl) (Go.step (o_iload rfl d4) (Go.step (o_step rfl rfl) (Go.step (o_iload_n (i := 2) rfl d2) (Go.step s153 ((st7 ls2 h3 ⟨d0, d1, d2, d4, d5, d6⟩).trans (Go.step (o_iload rfl clk_hd) (Go.step (o_step rfl rfl) (Go.step (o_ic_f (t := 229) rfl rfl q4d) (Go.step (o_iload rfl l6.2.2.2.2.2) (Go.step (o_if_t (t := 229) rfl rfl q5d) Go.rf)))))))))))))))), rfl, w2, Fr.tr (W2 := gaW) rfl F2 w3, w4, w5⟩
      | false =>
        rw [hbF] at hof2
        have q3d : cDec .eq (ofF (Int32.ofNat fo) (fw T)) 0 = true := by rw [hof2]; decide
        have l6 := LT_st (i := 7) ⟨d0, d1, d2, d4, d5, d6⟩ (Or.inl rfl) (cI (Int32.ofInt 0))
        rw [hof2] at l6
        obtain ⟨ls9, h9', z1, z2, z3, z4, z5⟩ := te_loop hTK h0 h9 1024 0 (Int32.ofInt 0) ((7, cI (Int32.ofInt 0)) :: ls2.filter (ckI 7)) h2 (by omega) rfl l6 clk_hd G2 J2 R2 (fun ft' hft => by
          rw [r2] at hft
          cases hft
          rw [pk_us]
          decide)
        exact ⟨229, ls9, h9', pre2 _ (Go.step (o_if_t (t := 140) rfl rfl q2d) (Go.step (o_iload rfl d6) (Go.step (o_if_t (t := 156) rfl rfl q3d) ((st7 ls2 h2 ⟨d0, d1, d2, d4, d5, d6⟩).trans z1)))), rfl, z2, Fr.tr (W2 := gaW) rfl F2 z3, z4, z5⟩
