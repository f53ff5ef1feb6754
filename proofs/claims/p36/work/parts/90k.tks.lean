/-! THE WAY, 11: takesTalks, goesAsTold -/
theorem tt_ok {h : List cC} (hG : HG TT [] h) (hJ : J9 h) {f : Nat → Int32} (r3 : h[183]? = some (.inr (.inl (0, 230, f)))) (hns : NSr f) : ∃ (h2 : List cC) (fw fm fn : Nat → Int32) (mn : Nat), Trm 1 241 [cR 170] h none h2 ∧ HG TT [] h2 ∧ Fr PT9 ttW h h2 ∧ J9 h2 ∧ TN fw fm fn f mn h2 := by
  obtain ⟨vs, m1, _⟩ := mo_at hG
  have m26 := mo_sa hG m1
  obtain ⟨f', r4, hf⟩ := HG_sa hG
  rw [r3] at r4
  cases r4
  obtain ⟨N, M, K, _, _, _, _, n1, n2⟩ := sa_1 hf
  obtain ⟨x, z1, _⟩ := HG_mf hG (j := 31) (b := (0, 31)) rfl
  obtain ⟨y, y1, _⟩ := fv_at m1 ⟨x, z1, rfl⟩
  have l31 : 31 < vs.length := (List.getElem?_eq_some_iff.mp y1).1
  have hcl : classes[12]? = some classes[12] := rfl
  have s6 : ∀ (ls : List (Nat × cV)) (st : List cV), cOne (calF (Trm 0)) eM241 none (6, ls, cI (Int32.ofInt 0) :: cR 183 :: st, h) = some (7, ls, cI (f 0) :: st, h) := fun ls st => o_iald (i := Int32.ofInt 0) rfl r3 rfl
  have g1 : HG TT [] (h.set 170 (.inl (12, vs.set 31 (cI (f 0))))) := HG_mo hG m1 (j := 31) (b := (0, 31)) rfl ⟨by show (0 : Int) ≤ _; omega, by show _ ≤ (31 : Int); omega⟩
  obtain ⟨fw, q4, _⟩ := HG_row hG (k := 184) (kd := 0) (n := 31) (d := (0, 9)) rfl
  obtain ⟨fm, q5, _⟩ := HG_row hG (k := 185) (kd := 0) (n := 31) (d := (0, 9)) rfl
  have v31 : fv (h.set 170 (.inl (12, vs.set 31 (cI (f 0))))) 31 (K : Nat) := by
    have := fv_eq m1 l31 (f 0)
    rw [n1] at this
    exact this
  obtain ⟨ls2, h2, a1, a2, a3, a4, a5, a6, fw2, fm2, a7, a8, a9⟩ := tt_loop hf n2 K 0 (Int32.ofInt 0) (h.set 170 (.inl (12, vs.set 31 (cI (f 0))))) (by omega) rfl g1 (J9_mo hJ) (rw_ne (by decide) r3) v31 ⟨fw, fm, rw_ne (by decide) q4, rw_ne (by decide) q5, fun t ht => by omega⟩
  obtain ⟨fn2, q6, _⟩ := HG_row a2 (k := 186) (kd := 0) (n := 31) (d := (0, 99)) rfl
  refine ⟨h2, fw2, fm2, fn2, K, Trm_succ.mpr ⟨eM241, (88, ls2, [], h2), rfl, Nat.le_of_ble_eq_true rfl, Go.step (o_aload_n (i := 0) rfl rfl) (Go.step (o_aload_n (i := 0) rfl rfl) (Go.step (o_get rfl rfl rfl m1 m26) (Go.step (o_step rfl rfl) (Go.step (s6 _ _) (Go.step (o_put rfl rfl rfl m1 y1 hcl rfl rfl) (Go.step (o_step rfl rfl) (Go.step (o_step rfl rfl) a1))))))), rfl⟩, a2, Fr.tr (subW_rf ttW) (Fr_mo Fr.rf m1 rfl) a3, a4, a7, a8, q6, a5, a6, by omega, fun t ht => ?_⟩
  obtain ⟨b1, b2⟩ := a9 t ht
  rw [b1, b2]
  exact hns t (by omega)
abbrev gtW : aW := [(170, 24), (170, 31), (170, 32), (170, 33), (181, 1000), (182, 1000), (184, 1000), (185, 1000), (186, 1000), (187, 1000), (188, 1000), (189, 1000), (190, 1000), (191, 1000), (192, 1000), (193, 1000), (194, 1000), (195, 1000), (196, 1000), (197, 1000)]
theorem gt_ok {h : List cC} (hG : HG TT [] h) (hJ : J9 h) {f : Nat → Int32} (r3 : h[183]? = some (.inr (.inl (0, 230, f)))) (hns : NSr f) {lw : Int32} (hlw : 0 ≤ lw.toInt ∧ lw.toInt ≤ 5) : ∃ (h2 : List cC) (fw fm fn : Nat → Int32) (mn FO : Nat), Trm 9 183 [cR 170, cI lw] h none h2 ∧ HG TT [] h2 ∧ Fr PT9 gtW h h2 ∧ J9 h2 ∧ RX fw fm fn f FO mn h2 := by
  obtain ⟨h1, fw, fm, fn, mn, t1, t2, t3, t4, t5⟩ := tt_ok hG hJ r3 hns
  obtain ⟨vs, m1, _⟩ := mo_at hG
  obtain ⟨us, n1, _⟩ := mo_at t2
  have n26 := mo_sa t2 n1
  have r4 := t5.2.2.2.1
  obtain ⟨f', r5, hf⟩ := HG_sa t2
  rw [r4] at r5
  cases r5
  have k4 := (hf 4 (by decide)).2 (4, 1, 2, (0, 1023)) (by decide) ⟨0, by decide, rfl⟩
  have k5 := (hf 5 (by decide)).2 (4, 1, 2, (0, 1023)) (by decide) ⟨1, by decide, rfl⟩
  have p1 : (0 : Int) ≤ (f 4).toInt := k4.1
  have p2 : (f 4).toInt ≤ (1023 : Int) := k4.2
  have p3 : (0 : Int) ≤ (f 5).toInt := k5.1
  have p4 : (f 5).toInt ≤ (1023 : Int) := k5.2
  obtain ⟨h2, a1, a2, a3, a4, a5⟩ := go_ok (FO := (f 4).toInt.toNat) (lw := lw) (fi := f 4) (si := f 5) t2 t4 t5 hlw (by omega) (by omega) ⟨p3, p4⟩
  have s1 : cOne (calF (Trm 8)) eM183 none (1, [(0, cR 170), (1, cI lw)], [cR 170], h) = some (4, [(0, cR 170), (1, cI lw)], [], h1) := gh_inv (d := 8) (mi := 241) (N := eM241) (pc := 1) (ls := [(0, cR 170), (1, cI lw)]) (st := [cR 170]) (r := none) rfl rfl rfl rfl rfl (by show recC h 12 [cR 170] = true; unfold recC; dsimp only; rw [m1]; rfl) (Trm_le (by decide) t1)
  have s11 : ∀ (ls : List (Nat × cV)) (st : List cV), cOne (calF (Trm 8)) eM183 none (11, ls, cI (Int32.ofInt 4) :: cR 183 :: st, h1) = some (12, ls, cI (f 4) :: st, h1) := fun ls st => o_iald (i := Int32.ofInt 4) rfl r4 rfl
  have s17 : ∀ (ls : List (Nat × cV)) (st : List cV), cOne (calF (Trm 8)) eM183 none (17, ls, cI (Int32.ofInt 5) :: cR 183 :: st, h1) = some (18, ls, cI (f 5) :: st, h1) := fun ls st => o_iald (i := Int32.ofInt 5) rfl r4 rfl
  have s18 : cOne (calF (Trm 8)) eM183 none (18, [(0, cR 170), (1, cI lw)], [cI (f 5), cI (f 4), cI lw, cR 170], h1) = some (21, [(0, cR 170), (1, cI lw)], [], h2) := gh_inv (d := 8) (mi := 185) (N := eM185) (pc := 18) (ls := [(0, cR 170), (1, cI lw)]) (st := [cI (f 5), cI (f 4), cI lw, cR 170]) (r := none) rfl rfl rfl rfl rfl (by show recC h1 12 [cR 170, cI lw, cI (f 4), cI (f 5)] = true; unfold recC; dsimp only; rw [n1]; rfl) a1
  exact ⟨h2, fw, fm, fn, mn, (f 4).toInt.toNat, Trm_succ.mpr ⟨eM183, (21, [(0, cR 170), (1, cI lw)], [], h2), rfl, Nat.le_of_ble_eq_true rfl, Go.step (o_aload_n (i := 0) rfl rfl) (Go.step s1 (Go.step (o_aload_n (i := 0) rfl rfl) (Go.step (o_iload_n (i := 1) rfl rfl) (Go.step (o_aload_n (i := 0) rfl rfl) (Go.step (o_get rfl rfl rfl n1 n26) (Go.step (o_step rfl rfl) (Go.step (s11 _ _) (Go.step (o_aload_n (i := 0) rfl rfl) (Go.step (o_get rfl rfl rfl n1 n26) (Go.step (o_step rfl rfl) (Go.step (s17 _ _) (Go.step s18 Go.rf)))))))))))), rfl⟩, a2, Fr.tr (W2 := goW) rfl (Fr.tr (W2 := ttW) rfl Fr.rf t3) a3, a4, a5⟩
