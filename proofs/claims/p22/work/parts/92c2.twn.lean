/-! A TOWN'S TALKS, 4: town, by hand -/
theorem tw_loop {vs : List cV} {x : Int32} {n : Nat} {q : Nat → Int32} (m26 : vs[26]? = some (cR 183)) (m13 : vs[13]? = some (cR 179)) (x1 : vs[7]? = some (cI x)) (x2 : x.toInt = n) (hn : n ≤ 30) : ∀ (m k : Nat) (kk : Int32) (ls : List (Nat × cV)) (h : List cC) (f : Nat → Int32), k + m = 3 * n → kk.toInt = k → clk ls 0 = some (cR 170) → clk ls 1 = some (cI kk) → h[170]? = some (.inl (12, vs)) → h[179]? = some (.inr (.inl (0, 90, q))) → h[183]? = some (.inr (.inl (0, 230, f))) → ∃ (ls2 : List (Nat × cV)) (h2 : List cC) (f2 : Nat → Int32), Go (calF (Trm 29)) eM248 none (184, ls, [], h) (215, ls2, [], h2) ∧ clk ls2 0 = some (cR 170) ∧ h2[170]? = some (.inl (12, vs)) ∧ h2[183]? = some (.inr (.inl (0, 230, f2))) ∧ h2[203]? = h[203]? ∧ f2 0 = f 0 ∧ (∀ j : Nat, j < k → f2 (80 + j) = f (80 + j)) ∧ (∀ j : Nat, k ≤ j → j < 3 * n → f2 (80 + j) = q j)
  | 0, k, kk, ls, h, f, hk, hkk, c0, c1, m1, r9, r3 => by
    have e3 : (Int32.ofInt 3).toInt = 3 := rfl
    have d1 : (Int32.ofInt 3 * x).toInt = 3 * x.toInt := by rw [i32_mul (by rw [e3]; omega) (by rw [e3]; omega), e3]
    have hd : cDec .ge kk (Int32.ofInt 3 * x) = true := decide_eq_true (Int32.le_iff_toInt_le.mpr (by omega))
    exact ⟨ls, h, f, Go.step (o_iload_n (i := 1) rfl c1) (Go.step (o_step rfl rfl) (Go.step (o_aload_n (i := 0) rfl c0) (Go.step (o_get rfl rfl rfl m1 x1) (Go.step (o_step rfl rfl) (Go.step (o_ic_t (t := 215) rfl rfl hd) Go.rf))))), c0, m1, r3, rfl, rfl, fun _ _ => rfl, fun j h1 h2 => absurd h1 (by omega)⟩
  | m + 1, k, kk, ls, h, f, hk, hkk, c0, c1, m1, r9, r3 => by
    have e3 : (Int32.ofInt 3).toInt = 3 := rfl
    have e80 : ((Int8.ofInt 80).toInt32).toInt = 80 := rfl
    have d1 : (Int32.ofInt 3 * x).toInt = 3 * x.toInt := by rw [i32_mul (by rw [e3]; omega) (by rw [e3]; omega), e3]
    have hd : cDec .ge kk (Int32.ofInt 3 * x) = false := decide_eq_false (fun z => by have := Int32.le_iff_toInt_le.mp z; omega)
    have d2 : ((Int8.ofInt 80).toInt32 + kk).toInt = ((80 + k : Nat) : Int) := by
      rw [i32_add (by rw [e80]; omega) (by rw [e80]; omega), e80]
      omega
    obtain ⟨i1, i2⟩ := in_B (n := 230) d2 (by omega)
    obtain ⟨j1, j2⟩ := in_B (n := 90) hkk (by omega)
    have s207 : ∀ (ls : List (Nat × cV)) (st : List cV), cOne (calF (Trm 29)) eM248 none (207, ls, cI kk :: cR 179 :: st, h) = some (208, ls, cI (q k) :: st, h) := fun ls st => by
      have := o_iald (call := calF (Trm 29)) (M := eM248) (sc := none) (pc := 207) (ls := ls) (st := st) rfl r9 j1
      rw [j2] at this
      exact this
    have s208 : ∀ (ls : List (Nat × cV)) (st : List cV), cOne (calF (Trm 29)) eM248 none (208, ls, cI (q k) :: cI ((Int8.ofInt 80).toInt32 + kk) :: cR 183 :: st, h) = some (209, ls, st, h.set 183 (.inr (.inl (0, 230, upd f (80 + k) (q k))))) := fun ls st => by
      have := o_iast (call := calF (Trm 29)) (M := eM248) (sc := none) (pc := 208) (ls := ls) (st := st) (x := q k) rfl r3 i1
      rw [i2] at this
      exact this
    have hk1 : (kk + Int32.ofInt 1).toInt = ((k + 1 : Nat) : Int) := by
      rw [i32_add (by rw [one_i]; omega) (by rw [one_i]; omega), one_i]
      omega
    obtain ⟨ls2, h2, f2, z1, z2, z3, z4, z5, z6, z7, z8⟩ := tw_loop m26 m13 x1 x2 hn m (k + 1) (kk + Int32.ofInt 1) ((1, cI (kk + Int32.ofInt 1)) :: ls.filter (ckI 1)) (h.set 183 (.inr (.inl (0, 230, upd f (80 + k) (q k))))) (upd f (80 + k) (q k)) (by omega) hk1 (clk_st rfl rfl rfl c0) clk_hd (rw_ne (by decide) m1) (rw_ne (by decide) r9) (rw_eq r3)
    refine ⟨ls2, h2, f2, Go.step (o_iload_n (i := 1) rfl c1) (Go.step (o_step rfl rfl) (Go.step (o_aload_n (i := 0) rfl c0) (Go.step (o_get rfl rfl rfl m1 x1) (Go.step (o_step rfl rfl) (Go.step (o_ic_f (t := 215) rfl rfl hd) (Go.step (o_aload_n (i := 0) rfl c0) (Go.step (o_get rfl rfl rfl m1 m26) (Go.step (o_step rfl rfl) (Go.step (o_iload_n (i := 1) rfl c1) (Go.step (o_step rfl rfl) (Go.step (o_aload_n (i := 0) rfl c0) (Go.step (o_get rfl rfl rfl m1 m13) (Go.step (o_iload_n (i := 1) rfl c1) (Go.step (s207 _ _) (Go.step (s208 _ _) (Go.step (o_inc rfl rfl c1) (Go.step (o_step rfl rfl) z1))))))))))))))))), z2, z3, z4, ?_, ?_, fun j hj => ?_, fun j h1 h3 => ?_⟩
    · rw [z5, List.getElem?_set_ne (by decide)]
    · rw [z6, pk_un (by omega)]
    · rw [z7 j (by omega), pk_un (by omega)]
    · by_cases e : j = k
      · subst e
        rw [z7 j (by omega), pk_us]
      · exact z8 j (by omega) h3
theorem tw_ns {h : List cC} (hG : HG TT [] h) (hJ : J9 h) (hn : NSh h) : ∃ (r : Option cV) (h2 : List cC), Trm 30 248 [cR 170] h r h2 ∧ NSh h2 := by
  have hO : ∀ l ∈ [t6A, t6B], Obl P9 kT0 29 eM248 0 [] ([t6A, t6B] ++ [t6T]) l := gh_cons (chkL_ok J9_ok t6Q_ok t6A_k) (gh_cons (chkL_ok J9_ok t6Q_ok t6B_k) gh_nil)
  obtain ⟨S2, y1, y2, l2, q1, ρ2, q2, q3, q4, q5, q6, q7, q8⟩ := Obl_un hO (ρ0 := []) rfl (h0 := h) _ t6A List.mem_cons_self [] (0, [(0, cR 170)], [], h) rfl rfl hG bnil ⟨List.nil_prefix, fun q hq => by cases hq⟩ (fun q hq => by
    have e := List.mem_singleton.mp hq
    subst e
    exact ⟨cR 170, rfl, 170, List.mem_singleton.mpr rfl, rfl⟩) trivial (fun q hq => by cases hq) ⟨Fr.rf, hJ⟩
  have e := List.mem_singleton.mp q1
  subst e
  obtain ⟨Spc, Sls, Sst, h1⟩ := S2
  dsimp only at y1 y2 q2 q3 q6 q7 q8
  have F1 : Fr PT9 kT0 h h1 := y2.1
  have J1 : J9 h1 := y2.2
  match Sst, q7 with
  | [w], ⟨⟨k, k1, k2⟩, _⟩ =>
    subst q2
    have k3 := List.mem_singleton.mp k1
    subst k3
    subst k2
    have d0 := vR q6 (j := 0) (k := 170) (List.mem_of_getElem? (i := 0) rfl)
    obtain ⟨ci, us, v, v1, v2, x, x1, x2⟩ := q8 (170, 17, .inr (.inl (.inl 6))) (List.mem_of_getElem? (i := 0) rfl)
    subst x1
    have v1 : h1[170]? = some (.inl (ci, us)) := v1
    have v2 : us[17]? = some (cI x) := v2
    have h17 : fv h1 17 6 := ⟨x, fI_at v1 v2, x2⟩
    obtain ⟨ci', us', v', w1, w2, x', w3, w4⟩ := q8 (170, 7, .inr (.inl (.inl 0))) (List.mem_of_getElem? (i := 1) rfl)
    subst w3
    have w1 : h1[170]? = some (.inl (ci', us')) := w1
    have w2 : us'[7]? = some (cI x') := w2
    have h7 : fv h1 7 ((0 : Nat) : Int) := ⟨x', fI_at w1 w2, w4⟩
    obtain ⟨c9, a1, q9, a2, _⟩ := q3.2 179 _ (rfl : TT[179]? = some (.inr (.inl (0, 90, (0, 99), [(0, 3, 30, (0, 9)), (1, 3, 30, (0, 9))]))))
    subst a2
    obtain ⟨r, h2, t1, t2, t3, t4, n, q, t5⟩ := r6_ok q3 J1 h17 ⟨0, q9, h7, by omega, a1, fun t ht => by omega⟩
    obtain ⟨vs, m1, _⟩ := mo_at q3
    obtain ⟨vs2, o1, _⟩ := mo_at t2
    have N1 := NSh_sm hG (SM_of F1 rfl rfl) hn
    have N2 := NSh_sm q3 (SM_of t3 rfl rfl) N1
    have s43 : cOne (calF (Trm 29)) eM248 none (43, Sls, [cR 170], h1) = some (46, Sls, [cI r], h2) := gh_inv (d := 29) (mi := 228) (N := eM228) (pc := 43) (ls := Sls) (st := [cR 170]) (r := some (cI r)) rfl rfl rfl rfl rfl (by show recC h1 12 [cR 170] = true; unfold recC; dsimp only; rw [m1]; rfl) t1
    by_cases c : r = 0
    · obtain ⟨z, z1, _⟩ := HG_mf t2 (j := 15) (b := (-2147483648, 2147483647)) rfl
      obtain ⟨z', z3, _⟩ := fv_at o1 ⟨z, z1, rfl⟩
      exact ⟨some (cI ((Int8.ofInt (-2)).toInt32 - z')), h2, Trm_succ.mpr ⟨eM248, (56, Sls, [cI ((Int8.ofInt (-2)).toInt32 - z')], h2), rfl, Nat.le_of_ble_eq_true rfl, y1.trans (Go.step s43 (Go.step (o_if_f (t := 57) rfl rfl (decide_eq_false (fun z => z c))) (Go.step (o_step rfl rfl) (Go.step (o_aload_n (i := 0) rfl d0) (Go.step (o_get rfl rfl rfl o1 z3) (Go.step (o_step rfl rfl) Go.rf)))))), rfl⟩, N2⟩
    · have hO2 : ∀ l ∈ [u57, u89, u118, u151], Obl P9 kU0 29 eM248 1 [] ([u57, u89, u118, u151] ++ [u184]) l := gh_cons (chkL_ok J9_ok u6Q_ok u57_k) (gh_cons (chkL_ok J9_ok u6Q_ok u89_k) (gh_cons (chkL_ok J9_ok u6Q_ok u118_k) (gh_cons (chkL_ok J9_ok u6Q_ok u151_k) gh_nil)))
      have n30 := t5.2.1
      obtain ⟨S3, y3, y4, l3, p1, ρ3, p2, p3, p4, p5, p6, p7, p8⟩ := Obl_un hO2 (ρ0 := [(n : Int)]) rfl (h0 := h2) _ u57 List.mem_cons_self [(n : Int)] (57, Sls, [], h2) rfl rfl t2 (bcons ⟨by show (0 : Int) ≤ _; omega, by show _ ≤ (30 : Int); omega⟩ bnil) ⟨List.prefix_rfl, fun q hq => by cases hq⟩ (fun q hq => by
        have e := List.mem_singleton.mp hq
        subst e
        exact ⟨cR 170, d0, 170, List.mem_singleton.mpr rfl, rfl⟩) trivial (fun q hq => by
        have e := List.mem_singleton.mp hq
        subst e
        exact fv_F t5.1 rfl) ⟨Fr.rf, t4⟩
      have e := List.mem_singleton.mp p1
      subst e
      obtain ⟨Tpc, Tls, Tst, h3⟩ := S3
      dsimp only at y3 y4 p2 p3 p5 p6 p7
      have F3 : Fr PT9 kU0 h2 h3 := y4.1
      have et : Tst = [] := by
        cases Tst with
        | nil => rfl
        | cons _ _ => exact p7.elim
      subst p2 et
      have e0 := vR p6 (j := 0) (k := 170) (List.mem_of_getElem? (i := 0) rfl)
      obtain ⟨kk, e1, e2⟩ := vC p6 (j := 1) (c := 0) (List.mem_of_getElem? (i := 1) rfl)
      have t6 := TRq_keep F3 rfl rfl t5
      obtain ⟨vs3, o3, _⟩ := mo_at p3
      obtain ⟨x9, x8, x7⟩ := fv_at o3 t6.1
      obtain ⟨kd, m9, f, g1, y9, g2, g3⟩ := p5.2 _ (List.mem_singleton.mpr rfl)
      have r0 : ρ3[0]? = some (n : Int) := at_mono p5.1 rfl
      rw [r0] at g2
      cases g2
      obtain ⟨f', g4, _⟩ := HG_sa p3
      have g1 : h3[183]? = some (.inr (.inl (kd, m9, f))) := g1
      have e9 : f 0 = f' 0 := Option.some.inj ((rE_at 0 g1).symm.trans (rE_at 0 g4))
      have m26 := mo_sa p3 o3
      have m13 := mo_j p3 o3 (j := 13) (k := 179) rfl
      obtain ⟨ls4, h4, f4, z1, z2, z3, z4, z5, z6, z7, z8⟩ := tw_loop m26 m13 x8 x7 n30 (3 * n) 0 kk Tls h3 f' (by omega) (by omega) e0 e1 o3 t6.2.2.1 g4
      refine ⟨some (cI x9), h4, Trm_succ.mpr ⟨eM248, (219, ls4, [cI x9], h4), rfl, Nat.le_of_ble_eq_true rfl, y1.trans (Go.step s43 (Go.step (o_if_t (t := 57) rfl rfl (decide_eq_true c)) (y3.trans (z1.trans (Go.step (o_aload_n (i := 0) rfl z2) (Go.step (o_get rfl rfl rfl z3 x8) Go.rf)))))), rfl⟩, fun g hg t ht => ?_, fun g hg => ?_⟩
      · rw [z4] at hg
        cases hg
        rw [z6] at ht
        have hf0 : (f' 0).toInt = 0 + 1 * (n : Int) := by rw [← e9]; exact g3
        rw [z8 (3 * t) (by omega) (by omega), show 80 + 3 * t + 1 = 80 + (3 * t + 1) by omega, z8 (3 * t + 1) (by omega) (by omega)]
        exact t6.2.2.2 t (by omega)
      · obtain ⟨g0, b1, _⟩ := HG_im t2
        have b2 := Fr_row F3 (k := 203) rfl b1
        rw [z5, b2] at hg
        exact N2.2 g (b1.trans hg)
theorem ow_town : owM 248 0 := fun h hi as hl => by
  have e : as = [] := List.length_eq_zero_iff.mp hl
  subst e
  obtain ⟨r, h2, t1, t2⟩ := pu_m2 hi.2.1 (as := []) rfl
  obtain ⟨r', h2', u1, u2⟩ := tw_ns hi.1 hi.2.1.2.1 hi.2.2
  have e := (Trm_det (Trm_le (by decide : 30 ≤ 60) u1) (Trm_le (by decide : 10 ≤ 60) t1)).2
  subst e
  exact ⟨r, h2', Trm_le (by decide) t1, t2.1, t2, u2⟩
