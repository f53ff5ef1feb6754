/-! ENTRY: both calls, 3 (p22) -/
abbrev e5L (A a c d : Int32) : List (Nat × cV) := [(4, cI A), (0, cR 170), (1, cI a), (2, cI c), (3, cI d)]
theorem en_m {h : List cC} (hG : HG TT [] h) {w : Int32} (hw : rE h 183 3 = some w) (w0 : 0 ≤ w.toInt) (w20 : w.toInt ≤ 20) (a c d : Int32) : ∃ (r n : Int32) (h2 : List cC), Trm 3 174 [cR 170, cI a, cI c, cI d] h (some (cI r)) h2 ∧ rE h2 183 3 = some n ∧ eQ a c d w r n := by
  obtain ⟨vs, m1, _⟩ := mo_at hG
  have m26 := mo_sa hG m1
  obtain ⟨f, r3, hf⟩ := HG_sa hG
  have ew : f 3 = w := by
    rw [rE_at 3 r3] at hw
    exact Option.some.inj hw
  have e20 : ((Int8.ofInt 20).toInt32).toInt = 20 := rfl
  have e170 : ((Int16.ofInt 170).toInt32).toInt = 170 := rfl
  have e3 : (Int32.ofInt 3).toInt = 3 := rfl
  have e2 : (Int32.ofInt 2).toInt = 2 := rfl
  have st : ∀ (pc : Nat) (i x : Int32) (g : Nat → Int32) (h9 : List cC) (I : Nat), fnd (m_il eM174) pc = some (.iastore, 1) → h9[183]? = some (.inr (.inl (0, 230, g))) → inB i 230 = true → i.toNatClampNeg = I → ∀ (ls : List (Nat × cV)) (st : List cV), cOne (calF (Trm 2)) eM174 none (pc, ls, cI x :: cI i :: cR 183 :: st, h9) = some (pc + 1, ls, st, h9.set 183 (.inr (.inl (0, 230, upd g I x)))) := fun pc i x g h9 I hf hr hi hI ls st => by
    have := o_iast (call := calF (Trm 2)) (M := eM174) (sc := none) (pc := pc) (ls := ls) (st := st) (x := x) hf hr hi
    rw [hI] at this
    exact this
  have ld : ∀ (pc : Nat) (g : Nat → Int32) (h9 : List cC), fnd (m_il eM174) pc = some (.iaload, 1) → h9[183]? = some (.inr (.inl (0, 230, g))) → ∀ (ls : List (Nat × cV)) (st : List cV), cOne (calF (Trm 2)) eM174 none (pc, ls, cI (Int32.ofInt 3) :: cR 183 :: st, h9) = some (pc + 1, ls, cI (g 3) :: st, h9) := fun pc g h9 hf hr ls st => o_iald (i := Int32.ofInt 3) hf hr rfl
  have p2 : ∀ S : cS, Go (calF (Trm 2)) eM174 none (2, e4L 170 a c d, [cI (Int32.ofInt (-1)), cI a], h) S → Go (calF (Trm 2)) eM174 none (0, e4L 170 a c d, [], h) S := fun S hs => Go.step (o_iload_n (i := 1) rfl rfl) (Go.step (o_step rfl rfl) hs)
  by_cases c0 : a = Int32.ofInt (-1)
  · have s11 := st 11 (Int32.ofInt 3) (Int32.ofInt 0) f h 3 rfl r3 rfl rfl
    exact ⟨Int32.ofInt 0, Int32.ofInt 0, h.set 183 (.inr (.inl (0, 230, upd f 3 (Int32.ofInt 0)))), Trm_succ.mpr ⟨eM174, (13, e4L 170 a c d, [cI (Int32.ofInt 0)], h.set 183 (.inr (.inl (0, 230, upd f 3 (Int32.ofInt 0))))), rfl, Nat.le_of_ble_eq_true rfl, p2 _ (Go.step (o_ic_f (t := 14) rfl rfl (decide_eq_false (fun z => z c0))) (Go.step (o_aload_n (i := 0) rfl rfl) (Go.step (o_get rfl rfl rfl m1 m26) (Go.step (o_step rfl rfl) (Go.step (o_step rfl rfl) (Go.step (s11 _ _) (Go.step (o_step rfl rfl) Go.rf))))))), rfl⟩, by rw [rE_at 3 (rw_eq r3), pk_us], Or.inl ⟨c0, rfl, rfl⟩⟩
  have p22 : ∀ S : cS, Go (calF (Trm 2)) eM174 none (22, e4L 170 a c d, [cI (Int8.ofInt 20).toInt32, cI (f 3)], h) S → Go (calF (Trm 2)) eM174 none (0, e4L 170 a c d, [], h) S := fun S hs => p2 _ (Go.step (o_ic_t (t := 14) rfl rfl (decide_eq_true c0)) (Go.step (o_aload_n (i := 0) rfl rfl) (Go.step (o_get rfl rfl rfl m1 m26) (Go.step (o_step rfl rfl) (Go.step (ld 19 f h rfl r3 _ _) (Go.step (o_step rfl rfl) hs))))))
  have no : Go (calF (Trm 2)) eM174 none (34, e4L 170 a c d, [], h) (36, e4L 170 a c d, [cI (Int8.ofInt (-2)).toInt32], h) := Go.step (o_step rfl rfl) Go.rf
  by_cases c1 : f 3 = (Int8.ofInt 20).toInt32
  · exact ⟨(Int8.ofInt (-2)).toInt32, w, h, Trm_succ.mpr ⟨eM174, _, rfl, Nat.le_of_ble_eq_true rfl, (p22 _ (Go.step (o_ic_t (t := 34) rfl rfl (decide_eq_true c1)) Go.rf)).trans no, rfl⟩, hw, Or.inr (Or.inl ⟨c0, Or.inl (by rw [← ew, c1, e20]; omega), rfl, rfl⟩)⟩
  have hlt : w.toInt < 20 := by
    by_cases z : w.toInt = 20
    · exact absurd (Int32.toInt_inj.mp (by rw [ew, e20]; exact z)) c1
    · omega
  obtain ⟨b, t1, q1⟩ := ec_m (h := h) a c d
  have s28 : cOne (calF (Trm 2)) eM174 none (28, e4L 170 a c d, [cI d, cI c, cI a], h) = some (31, e4L 170 a c d, [cI b], h) := gh_st (d := 2) (mi := 163) (N := eM163) (pc := 28) (ls := e4L 170 a c d) (st := [cI d, cI c, cI a]) (r := some (cI b)) rfl rfl rfl rfl rfl t1
  have p31 : ∀ S : cS, Go (calF (Trm 2)) eM174 none (31, e4L 170 a c d, [cI b], h) S → Go (calF (Trm 2)) eM174 none (0, e4L 170 a c d, [], h) S := fun S hs => p22 _ (Go.step (o_ic_f (t := 34) rfl rfl (decide_eq_false c1)) (Go.step (o_iload_n (i := 1) rfl rfl) (Go.step (o_iload_n (i := 2) rfl rfl) (Go.step (o_iload_n (i := 3) rfl rfl) (Go.step s28 hs)))))
  by_cases c2 : b = 0
  · exact ⟨(Int8.ofInt (-2)).toInt32, w, h, Trm_succ.mpr ⟨eM174, _, rfl, Nat.le_of_ble_eq_true rfl, (p31 _ (Go.step (o_if_f (t := 37) rfl rfl (decide_eq_false (fun z => z c2))) Go.rf)).trans no, rfl⟩, hw, Or.inr (Or.inl ⟨c0, Or.inr (fun z => (enB_nz q1).mpr z c2), rfl, rfl⟩)⟩
  have a1 : (Int32.ofInt 3 * f 3).toInt = 3 * (f 3).toInt := by rw [ew, i32_mul (by rw [e3]; omega) (by rw [e3]; omega), e3]
  have a2 : ((Int16.ofInt 170).toInt32 + Int32.ofInt 3 * f 3).toInt = ((170 + 3 * w.toInt.toNat : Nat) : Int) := by
    rw [i32_add (by rw [e170, a1, ew]; omega) (by rw [e170, a1, ew]; omega), e170, a1, ew]
    omega
  have s48 : cOne (calF (Trm 2)) eM174 none (48, e4L 170 a c d, [cI (Int32.ofInt 3 * f 3), cI (Int16.ofInt 170).toInt32], h) = some (49, e4L 170 a c d, [cI ((Int16.ofInt 170).toInt32 + Int32.ofInt 3 * f 3)], h) := o_step rfl rfl
  generalize hA : (Int16.ofInt 170).toInt32 + Int32.ofInt 3 * f 3 = A at a2 s48
  have a3 : (A + Int32.ofInt 1).toInt = ((170 + 3 * w.toInt.toNat + 1 : Nat) : Int) := by
    rw [i32_add (by rw [one_i]; omega) (by rw [one_i]; omega), one_i]
    omega
  have a4 : (A + Int32.ofInt 2).toInt = ((170 + 3 * w.toInt.toNat + 2 : Nat) : Int) := by
    rw [i32_add (by rw [e2]; omega) (by rw [e2]; omega), e2]
    omega
  obtain ⟨i1, i2⟩ := in_B (n := 230) a2 (by omega)
  obtain ⟨j1, j2⟩ := in_B (n := 230) a3 (by omega)
  obtain ⟨k1, k2⟩ := in_B (n := 230) a4 (by omega)
  have E1 : upd f (170 + 3 * w.toInt.toNat) a 3 = w := by rw [pk_un (by omega), ew]
  have s58 := st 58 A a f h _ rfl r3 i1 i2
  have R1 : (h.set 183 (.inr (.inl (0, 230, upd f (170 + 3 * w.toInt.toNat) a))))[183]? = some (.inr (.inl (0, 230, upd f (170 + 3 * w.toInt.toNat) a))) := rw_eq r3
  have M1 : (h.set 183 (.inr (.inl (0, 230, upd f (170 + 3 * w.toInt.toNat) a))))[170]? = some (.inl (12, vs)) := rw_ne (by decide) m1
  generalize hh1 : h.set 183 (.inr (.inl (0, 230, upd f (170 + 3 * w.toInt.toNat) a))) = h1 at R1 M1 s58
  generalize hg1 : upd f (170 + 3 * w.toInt.toNat) a = f1 at R1 E1
  have E2 : upd f1 (170 + 3 * w.toInt.toNat + 1) c 3 = w := by rw [pk_un (by omega), E1]
  have s68 := st 68 (A + Int32.ofInt 1) c f1 h1 _ rfl R1 j1 j2
  have R2 : (h1.set 183 (.inr (.inl (0, 230, upd f1 (170 + 3 * w.toInt.toNat + 1) c))))[183]? = some (.inr (.inl (0, 230, upd f1 (170 + 3 * w.toInt.toNat + 1) c))) := rw_eq R1
  have M2 : (h1.set 183 (.inr (.inl (0, 230, upd f1 (170 + 3 * w.toInt.toNat + 1) c))))[170]? = some (.inl (12, vs)) := rw_ne (by decide) M1
  generalize hh2 : h1.set 183 (.inr (.inl (0, 230, upd f1 (170 + 3 * w.toInt.toNat + 1) c))) = h2 at R2 M2 s68
  generalize hg2 : upd f1 (170 + 3 * w.toInt.toNat + 1) c = f2 at R2 E2
  have E3 : upd f2 (170 + 3 * w.toInt.toNat + 2) d 3 = w := by rw [pk_un (by omega), E2]
  have s78 := st 78 (A + Int32.ofInt 2) d f2 h2 _ rfl R2 k1 k2
  have R3 : (h2.set 183 (.inr (.inl (0, 230, upd f2 (170 + 3 * w.toInt.toNat + 2) d))))[183]? = some (.inr (.inl (0, 230, upd f2 (170 + 3 * w.toInt.toNat + 2) d))) := rw_eq R2
  have M3 : (h2.set 183 (.inr (.inl (0, 230, upd f2 (170 + 3 * w.toInt.toNat + 2) d))))[170]? = some (.inl (12, vs)) := rw_ne (by decide) M2
  generalize hh3 : h2.set 183 (.inr (.inl (0, 230, upd f2 (170 + 3 * w.toInt.toNat + 2) d))) = h3 at R3 M3 s78
  generalize hg3 : upd f2 (170 + 3 * w.toInt.toNat + 2) d = f3 at R3 E3
  have s88 := st 88 (Int32.ofInt 3) (f3 3 + Int32.ofInt 1) f3 h3 3 rfl R3 rfl rfl
  have R4 : (h3.set 183 (.inr (.inl (0, 230, upd f3 3 (f3 3 + Int32.ofInt 1)))))[183]? = some (.inr (.inl (0, 230, upd f3 3 (f3 3 + Int32.ofInt 1)))) := rw_eq R3
  have M4 : (h3.set 183 (.inr (.inl (0, 230, upd f3 3 (f3 3 + Int32.ofInt 1)))))[170]? = some (.inl (12, vs)) := rw_ne (by decide) M3
  generalize hh4 : h3.set 183 (.inr (.inl (0, 230, upd f3 3 (f3 3 + Int32.ofInt 1)))) = h4 at R4 M4 s88
  have E4 : upd f3 3 (f3 3 + Int32.ofInt 1) 3 = w + Int32.ofInt 1 := by rw [pk_us, E3]
  have g49 : Go (calF (Trm 2)) eM174 none (0, e4L 170 a c d, [], h) (51, e5L A a c d, [], h) := p31 _ (Go.step (o_if_t (t := 37) rfl rfl (decide_eq_true c2)) (Go.step (o_step rfl rfl) (Go.step (o_step rfl rfl) (Go.step (o_aload_n (i := 0) rfl rfl) (Go.step (o_get rfl rfl rfl m1 m26) (Go.step (o_step rfl rfl) (Go.step (ld 46 f h rfl r3 _ _) (Go.step (o_step rfl rfl) (Go.step s48 (Go.step (o_ist rfl rfl) Go.rf))))))))))
  have g59 : Go (calF (Trm 2)) eM174 none (51, e5L A a c d, [], h) (59, e5L A a c d, [], h1) := Go.step (o_aload_n (i := 0) rfl rfl) (Go.step (o_get rfl rfl rfl m1 m26) (Go.step (o_iload rfl rfl) (Go.step (o_iload_n (i := 1) rfl rfl) (Go.step (s58 _ _) Go.rf))))
  have g69 : Go (calF (Trm 2)) eM174 none (59, e5L A a c d, [], h1) (69, e5L A a c d, [], h2) := Go.step (o_aload_n (i := 0) rfl rfl) (Go.step (o_get rfl rfl rfl M1 m26) (Go.step (o_iload rfl rfl) (Go.step (o_step rfl rfl) (Go.step (o_step rfl rfl) (Go.step (o_iload_n (i := 2) rfl rfl) (Go.step (s68 _ _) Go.rf))))))
  have g79 : Go (calF (Trm 2)) eM174 none (69, e5L A a c d, [], h2) (79, e5L A a c d, [], h3) := Go.step (o_aload_n (i := 0) rfl rfl) (Go.step (o_get rfl rfl rfl M2 m26) (Go.step (o_iload rfl rfl) (Go.step (o_step rfl rfl) (Go.step (o_step rfl rfl) (Go.step (o_iload_n (i := 3) rfl rfl) (Go.step (s78 _ _) Go.rf))))))
  have g89 : Go (calF (Trm 2)) eM174 none (79, e5L A a c d, [], h3) (89, e5L A a c d, [], h4) := Go.step (o_aload_n (i := 0) rfl rfl) (Go.step (o_get rfl rfl rfl M3 m26) (Go.step (o_step rfl rfl) (Go.step (o_step rfl rfl) (Go.step (ld 85 f3 h3 rfl R3 _ _) (Go.step (o_step rfl rfl) (Go.step (o_step rfl rfl) (Go.step (s88 _ _) Go.rf)))))))
  have g95 : Go (calF (Trm 2)) eM174 none (89, e5L A a c d, [], h4) (95, e5L A a c d, [cI (upd f3 3 (f3 3 + Int32.ofInt 1) 3)], h4) := Go.step (o_aload_n (i := 0) rfl rfl) (Go.step (o_get rfl rfl rfl M4 m26) (Go.step (o_step rfl rfl) (Go.step (ld 94 _ h4 rfl R4 _ _) Go.rf)))
  rw [E4] at g95
  exact ⟨w + Int32.ofInt 1, w + Int32.ofInt 1, h4, Trm_succ.mpr ⟨eM174, _, rfl, Nat.le_of_ble_eq_true rfl, g49.trans (g59.trans (g69.trans (g79.trans (g89.trans g95)))), rfl⟩, by rw [rE_at 3 R4, E4], Or.inr (Or.inr ⟨c0, hlt, (enB_nz q1).mp c2, rfl, rfl⟩)⟩
theorem ow_pair : owPair := fun h hi a c d => by
  obtain ⟨w, w1, w2⟩ := hi.2.1.2.2.1
  obtain ⟨w', b1, b2, b3⟩ := HG_f hi.1 (k := 21) (j := 3) (b := (0, 20)) rfl rfl
  rw [w1] at b1
  cases b1
  dsimp only at b2 b3
  have hB : okB [a.toInt, c.toInt, d.toInt] [(-2147483648, 2147483647), (-2147483648, 2147483647), (-2147483648, 2147483647)] := bcons (in_f32 a) (bcons (in_f32 c) (bcons (in_f32 d) bnil))
  obtain ⟨r, h1, t1, t2, t3, t4, _⟩ := ft_firstX [a.toInt, c.toInt, d.toInt] [cR 0, cI a, cI c, cI d] h hi.1 hB (fun q hq => by cases hq) ⟨⟨0, List.mem_singleton.mpr rfl, rfl⟩, vxs rfl, vxs rfl, vxs rfl, trivial⟩ (fun q hq => by cases hq) hi.2.1.2.1
  obtain ⟨x, n, h1', u1, u2, u3⟩ := en_x hi.1 w1 b2 a c d
  obtain ⟨e1, e2⟩ := Trm_det (Trm_le (by decide : 3 ≤ 3) u1) t1
  subst e1 e2
  have w3 : rE h1' 183 3 = some w := rE_keep t3 rfl w2
  obtain ⟨r2, h2, s1, s2, s3, s4, _⟩ := ft_firstM [a.toInt, c.toInt, d.toInt] [cR 170, cI a, cI c, cI d] h1' t2 hB (fun q hq => by cases hq) ⟨⟨170, List.mem_singleton.mpr rfl, rfl⟩, vxs rfl, vxs rfl, vxs rfl, trivial⟩ (fun q hq => by cases hq) t4
  obtain ⟨y, n', h2', v1, v2, v3⟩ := en_m t2 w3 b2 b3 a c d
  obtain ⟨e3, e4⟩ := Trm_det (Trm_le (by decide : 3 ≤ 3) v1) s1
  subst e3 e4
  obtain ⟨e5, e6⟩ := eQ_det u3 v3
  subst e5 e6
  have hfr : Fr [] ((183, 1000) :: fn_firstX.2.2.2.2.2.1) h h2' := Fr_tr2 (W1 := fn_firstX.2.2.2.2.2.1) (W2 := [(183, 1000)]) (by decide) (by decide) t3 s3
  have hin : INV h2' := ⟨s2, s4, ⟨n, fI_keep s3 rfl u2, v2⟩, INV_mid hi.2.1 hfr (fun k hk => by
    have : k = 0 ∨ k = 1 ∨ k = 2 ∨ k = 3 := by omega
    rcases this with rfl | rfl | rfl | rfl <;> rfl) rfl rfl rfl⟩
  exact ⟨x, h1', h2', Trm_le (by decide) t1, t2, Trm_le (by decide) s1, s2, hin, ns_of (n := 3) nt_first rfl t2 t4 [a, c, d] rfl s1 (NSh_sm hi.1 (SM_of t3 rfl rfl) hi.2.2)⟩
