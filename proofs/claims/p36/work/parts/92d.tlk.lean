/-! A TOWN'S TALKS, 5: canTalk, talk -/
theorem ct_trm {h : List cC} (a c d : Int32) : ∃ b : Int32, Trm 2 163 [cI a, cI c, cI d] h (some (cI b)) h ∧ (b ≠ 0 → a ≠ c) := by
  obtain ⟨b1, t1, _⟩ := ip_trm (h := h) a
  obtain ⟨b2, t2, _⟩ := ip_trm (h := h) c
  have s1 : cOne (calF (Trm 1)) eM163 none (1, [(0, cI a), (1, cI c), (2, cI d)], [cI a], h) = some (4, [(0, cI a), (1, cI c), (2, cI d)], [cI b1], h) := gh_st (d := 1) (mi := 202) (N := eM202) (pc := 1) (ls := [(0, cI a), (1, cI c), (2, cI d)]) (st := [cI a]) (r := some (cI b1)) rfl rfl rfl rfl rfl t1
  have s8 : cOne (calF (Trm 1)) eM163 none (8, [(0, cI a), (1, cI c), (2, cI d)], [cI c], h) = some (11, [(0, cI a), (1, cI c), (2, cI d)], [cI b2], h) := gh_st (d := 1) (mi := 202) (N := eM202) (pc := 8) (ls := [(0, cI a), (1, cI c), (2, cI d)]) (st := [cI c]) (r := some (cI b2)) rfl rfl rfl rfl rfl t2
  have no : Go (calF (Trm 1)) eM163 none (35, [(0, cI a), (1, cI c), (2, cI d)], [], h) (36, [(0, cI a), (1, cI c), (2, cI d)], [cI (Int32.ofInt 0)], h) := Go.step (o_step rfl rfl) Go.rf
  have fin : Go (calF (Trm 1)) eM163 none (0, [(0, cI a), (1, cI c), (2, cI d)], [], h) (35, [(0, cI a), (1, cI c), (2, cI d)], [], h) → ∃ b : Int32, Trm 2 163 [cI a, cI c, cI d] h (some (cI b)) h ∧ (b ≠ 0 → a ≠ c) := fun g => ⟨Int32.ofInt 0, Trm_succ.mpr ⟨eM163, _, rfl, Nat.le_of_ble_eq_true rfl, g.trans no, rfl⟩, fun z => absurd rfl z⟩
  have p4 : ∀ S : cS, Go (calF (Trm 1)) eM163 none (4, [(0, cI a), (1, cI c), (2, cI d)], [cI b1], h) S → Go (calF (Trm 1)) eM163 none (0, [(0, cI a), (1, cI c), (2, cI d)], [], h) S := fun S hs => Go.step (o_iload_n (i := 0) rfl rfl) (Go.step s1 hs)
  have p11 : ∀ S : cS, Go (calF (Trm 1)) eM163 none (11, [(0, cI a), (1, cI c), (2, cI d)], [cI b2], h) S → Go (calF (Trm 1)) eM163 none (7, [(0, cI a), (1, cI c), (2, cI d)], [], h) S := fun S hs => Go.step (o_iload_n (i := 1) rfl rfl) (Go.step s8 hs)
  by_cases c1 : b1 = 0
  · exact fin (p4 _ (Go.step (o_if_t (t := 35) rfl rfl (decide_eq_true c1)) Go.rf))
  by_cases c2 : b2 = 0
  · exact fin (p4 _ (Go.step (o_if_f (t := 35) rfl rfl (decide_eq_false c1)) (p11 _ (Go.step (o_if_t (t := 35) rfl rfl (decide_eq_true c2)) Go.rf))))
  have p16 : ∀ S : cS, Go (calF (Trm 1)) eM163 none (16, [(0, cI a), (1, cI c), (2, cI d)], [cI c, cI a], h) S → Go (calF (Trm 1)) eM163 none (0, [(0, cI a), (1, cI c), (2, cI d)], [], h) S := fun S hs => p4 _ (Go.step (o_if_f (t := 35) rfl rfl (decide_eq_false c1)) (p11 _ (Go.step (o_if_f (t := 35) rfl rfl (decide_eq_false c2)) (Go.step (o_iload_n (i := 0) rfl rfl) (Go.step (o_iload_n (i := 1) rfl rfl) hs)))))
  by_cases c3 : a = c
  · exact fin (p16 _ (Go.step (o_ic_t (t := 35) rfl rfl (decide_eq_true c3)) Go.rf))
  have s22 : ∀ (ls : List (Nat × cV)) (st : List cV), cOne (calF (Trm 1)) eM163 none (22, ls, st, h) = some (25, ls, cJ (Int64.ofInt 99) :: st, h) := fun ls st => o_step rfl rfl
  have s21 : ∀ (ls : List (Nat × cV)) (st : List cV), cOne (calF (Trm 1)) eM163 none (21, ls, st, h) = some (22, ls, cJ (Int64.ofInt 1) :: st, h) := fun ls st => o_step rfl rfl
  have s25 : cOne (calF (Trm 1)) eM163 none (25, [(0, cI a), (1, cI c), (2, cI d)], [cJ (Int64.ofInt 99), cJ (Int64.ofInt 1), cJ d.toInt64], h) = some (28, [(0, cI a), (1, cI c), (2, cI d)], [cI (inx d.toInt64 (Int64.ofInt 1) (Int64.ofInt 99))], h) := gh_st (d := 1) (mi := 189) (N := eM189) (pc := 25) (ls := [(0, cI a), (1, cI c), (2, cI d)]) (st := [cJ (Int64.ofInt 99), cJ (Int64.ofInt 1), cJ d.toInt64]) (r := some (cI (inx d.toInt64 (Int64.ofInt 1) (Int64.ofInt 99)))) rfl rfl rfl rfl rfl (in_x _ _ _)
  have p28 : ∀ S : cS, Go (calF (Trm 1)) eM163 none (28, [(0, cI a), (1, cI c), (2, cI d)], [cI (inx d.toInt64 (Int64.ofInt 1) (Int64.ofInt 99))], h) S → Go (calF (Trm 1)) eM163 none (0, [(0, cI a), (1, cI c), (2, cI d)], [], h) S := fun S hs => p16 _ (Go.step (o_ic_f (t := 35) rfl rfl (decide_eq_false c3)) (Go.step (o_iload_n (i := 2) rfl rfl) (Go.step (o_step rfl rfl) (Go.step (s21 _ _) (Go.step (s22 _ _) (Go.step s25 hs))))))
  by_cases c4 : inx d.toInt64 (Int64.ofInt 1) (Int64.ofInt 99) = 0
  · exact fin (p28 _ (Go.step (o_if_t (t := 35) rfl rfl (decide_eq_true c4)) Go.rf))
  exact ⟨Int32.ofInt 1, Trm_succ.mpr ⟨eM163, (36, [(0, cI a), (1, cI c), (2, cI d)], [cI (Int32.ofInt 1)], h), rfl, Nat.le_of_ble_eq_true rfl, p28 _ (Go.step (o_if_f (t := 35) rfl rfl (decide_eq_false c4)) (Go.step (o_step rfl rfl) (Go.step (o_step rfl rfl) Go.rf))), rfl⟩, fun _ => c3⟩
abbrev tkL (a c d : Int32) : List (Nat × cV) := [(0, cR 170), (1, cI a), (2, cI c), (3, cI d)]
abbrev tkM (A a c d : Int32) : List (Nat × cV) := [(4, cI A), (0, cR 170), (1, cI a), (2, cI c), (3, cI d)]
theorem tk_ns {h : List cC} (hG : HG TT [] h) (hn : NSh h) (a c d : Int32) : ∃ (r : Option cV) (h2 : List cC), Trm 3 242 [cR 170, cI a, cI c, cI d] h r h2 ∧ NSh h2 := by
  obtain ⟨vs, m1, _⟩ := mo_at hG
  have m26 := mo_sa hG m1
  obtain ⟨f, r3, hf⟩ := HG_sa hG
  obtain ⟨N, M, K, _, _, _, _, n1, n2⟩ := sa_1 hf
  obtain ⟨b, t1, q1⟩ := ct_trm (h := h) a c d
  have e30 : ((Int8.ofInt 30).toInt32).toInt = 30 := rfl
  have e80 : ((Int8.ofInt 80).toInt32).toInt = 80 := rfl
  have e3 : (Int32.ofInt 3).toInt = 3 := rfl
  have e2 : (Int32.ofInt 2).toInt = 2 := rfl
  have s5 : ∀ (ls : List (Nat × cV)) (st : List cV), cOne (calF (Trm 2)) eM242 none (5, ls, cI (Int32.ofInt 0) :: cR 183 :: st, h) = some (6, ls, cI (f 0) :: st, h) := fun ls st => o_iald (i := Int32.ofInt 0) rfl r3 rfl
  have s30 : ∀ (ls : List (Nat × cV)) (st : List cV), cOne (calF (Trm 2)) eM242 none (30, ls, cI (Int32.ofInt 0) :: cR 183 :: st, h) = some (31, ls, cI (f 0) :: st, h) := fun ls st => o_iald (i := Int32.ofInt 0) rfl r3 rfl
  have s14 : cOne (calF (Trm 2)) eM242 none (14, tkL a c d, [cI d, cI c, cI a], h) = some (17, tkL a c d, [cI b], h) := gh_st (d := 2) (mi := 163) (N := eM163) (pc := 14) (ls := tkL a c d) (st := [cI d, cI c, cI a]) (r := some (cI b)) rfl rfl rfl rfl rfl t1
  have no : Go (calF (Trm 2)) eM242 none (20, tkL a c d, [], h) (21, tkL a c d, [cI (Int32.ofInt (-1))], h) := Go.step (o_step rfl rfl) Go.rf
  have p8 : ∀ S : cS, Go (calF (Trm 2)) eM242 none (8, tkL a c d, [cI (Int8.ofInt 30).toInt32, cI (f 0)], h) S → Go (calF (Trm 2)) eM242 none (0, tkL a c d, [], h) S := fun S hs => Go.step (o_aload_n (i := 0) rfl rfl) (Go.step (o_get rfl rfl rfl m1 m26) (Go.step (o_step rfl rfl) (Go.step (s5 _ _) (Go.step (o_step rfl rfl) hs))))
  by_cases c0 : f 0 = (Int8.ofInt 30).toInt32
  · exact ⟨_, h, Trm_succ.mpr ⟨eM242, _, rfl, Nat.le_of_ble_eq_true rfl, (p8 _ (Go.step (o_ic_t (t := 20) rfl rfl (decide_eq_true c0)) Go.rf)).trans no, rfl⟩, hn⟩
  have hK : K < 30 := by
    by_cases z : K = 30
    · exact absurd (Int32.toInt_inj.mp (by rw [n1, e30]; omega)) c0
    · omega
  have p17 : ∀ S : cS, Go (calF (Trm 2)) eM242 none (17, tkL a c d, [cI b], h) S → Go (calF (Trm 2)) eM242 none (0, tkL a c d, [], h) S := fun S hs => p8 _ (Go.step (o_ic_f (t := 20) rfl rfl (decide_eq_false c0)) (Go.step (o_iload_n (i := 1) rfl rfl) (Go.step (o_iload_n (i := 2) rfl rfl) (Go.step (o_iload_n (i := 3) rfl rfl) (Go.step s14 hs)))))
  by_cases c1 : b = 0
  · exact ⟨_, h, Trm_succ.mpr ⟨eM242, _, rfl, Nat.le_of_ble_eq_true rfl, (p17 _ (Go.step (o_if_f (t := 22) rfl rfl (decide_eq_false (fun z => z c1))) Go.rf)).trans no, rfl⟩, hn⟩
  have hac := q1 c1
  have a1 : (Int32.ofInt 3 * f 0).toInt = 3 * (f 0).toInt := by rw [i32_mul (by rw [e3]; omega) (by rw [e3]; omega), e3]
  have a2 : ((Int8.ofInt 80).toInt32 + Int32.ofInt 3 * f 0).toInt = ((80 + 3 * K : Nat) : Int) := by
    rw [i32_add (by rw [e80]; omega) (by rw [e80]; omega), e80]
    omega
  have s32 : cOne (calF (Trm 2)) eM242 none (32, tkL a c d, [cI (Int32.ofInt 3 * f 0), cI (Int8.ofInt 80).toInt32], h) = some (33, tkL a c d, [cI ((Int8.ofInt 80).toInt32 + Int32.ofInt 3 * f 0)], h) := o_step rfl rfl
  generalize hA : (Int8.ofInt 80).toInt32 + Int32.ofInt 3 * f 0 = A at a2 s32
  have a3 : (A + Int32.ofInt 1).toInt = ((80 + 3 * K + 1 : Nat) : Int) := by
    rw [i32_add (by rw [one_i]; omega) (by rw [one_i]; omega), one_i]
    omega
  have a4 : (A + Int32.ofInt 2).toInt = ((80 + 3 * K + 2 : Nat) : Int) := by
    rw [i32_add (by rw [e2]; omega) (by rw [e2]; omega), e2]
    omega
  obtain ⟨i1, i2⟩ := in_B (n := 230) a2 (by omega)
  obtain ⟨j1, j2⟩ := in_B (n := 230) a3 (by omega)
  obtain ⟨k1, k2⟩ := in_B (n := 230) a4 (by omega)
  have st : ∀ (pc : Nat) (i x : Int32) (g : Nat → Int32) (h9 : List cC) (I : Nat), fnd (m_il eM242) pc = some (.iastore, 1) → h9[183]? = some (.inr (.inl (0, 230, g))) → inB i 230 = true → i.toNatClampNeg = I → ∀ (ls : List (Nat × cV)) (st : List cV), cOne (calF (Trm 2)) eM242 none (pc, ls, cI x :: cI i :: cR 183 :: st, h9) = some (pc + 1, ls, st, h9.set 183 (.inr (.inl (0, 230, upd g I x)))) := fun pc i x g h9 I hf hr hi hI ls st => by
    have := o_iast (call := calF (Trm 2)) (M := eM242) (sc := none) (pc := pc) (ls := ls) (st := st) (x := x) hf hr hi
    rw [hI] at this
    exact this
  have R1 : (h.set 183 (.inr (.inl (0, 230, upd f (80 + 3 * K) a))))[183]? = some (.inr (.inl (0, 230, upd f (80 + 3 * K) a))) := rw_eq r3
  have M1 : (h.set 183 (.inr (.inl (0, 230, upd f (80 + 3 * K) a))))[170]? = some (.inl (12, vs)) := rw_ne (by decide) m1
  have I1 : (h.set 183 (.inr (.inl (0, 230, upd f (80 + 3 * K) a))))[203]? = h[203]? := List.getElem?_set_ne (by decide)
  have s42 := st 42 A a f h (80 + 3 * K) rfl r3 i1 i2
  generalize hh1 : h.set 183 (.inr (.inl (0, 230, upd f (80 + 3 * K) a))) = h1 at R1 M1 I1 s42
  have R2 : (h1.set 183 (.inr (.inl (0, 230, upd (upd f (80 + 3 * K) a) (80 + 3 * K + 1) c))))[183]? = some (.inr (.inl (0, 230, upd (upd f (80 + 3 * K) a) (80 + 3 * K + 1) c))) := rw_eq R1
  have M2 : (h1.set 183 (.inr (.inl (0, 230, upd (upd f (80 + 3 * K) a) (80 + 3 * K + 1) c))))[170]? = some (.inl (12, vs)) := rw_ne (by decide) M1
  have I2 : (h1.set 183 (.inr (.inl (0, 230, upd (upd f (80 + 3 * K) a) (80 + 3 * K + 1) c))))[203]? = h[203]? := (List.getElem?_set_ne (by decide)).trans I1
  have s52 := st 52 (A + Int32.ofInt 1) c _ h1 (80 + 3 * K + 1) rfl R1 j1 j2
  generalize hh2 : h1.set 183 (.inr (.inl (0, 230, upd (upd f (80 + 3 * K) a) (80 + 3 * K + 1) c))) = h2 at R2 M2 I2 s52
  have R3 : (h2.set 183 (.inr (.inl (0, 230, upd (upd (upd f (80 + 3 * K) a) (80 + 3 * K + 1) c) (80 + 3 * K + 2) d))))[183]? = some (.inr (.inl (0, 230, upd (upd (upd f (80 + 3 * K) a) (80 + 3 * K + 1) c) (80 + 3 * K + 2) d))) := rw_eq R2
  have M3 : (h2.set 183 (.inr (.inl (0, 230, upd (upd (upd f (80 + 3 * K) a) (80 + 3 * K + 1) c) (80 + 3 * K + 2) d))))[170]? = some (.inl (12, vs)) := rw_ne (by decide) M2
  have I3 : (h2.set 183 (.inr (.inl (0, 230, upd (upd (upd f (80 + 3 * K) a) (80 + 3 * K + 1) c) (80 + 3 * K + 2) d))))[203]? = h[203]? := (List.getElem?_set_ne (by decide)).trans I2
  have s62 := st 62 (A + Int32.ofInt 2) d _ h2 (80 + 3 * K + 2) rfl R2 k1 k2
  have E0 : upd (upd (upd f (80 + 3 * K) a) (80 + 3 * K + 1) c) (80 + 3 * K + 2) d 0 = f 0 := by rw [pk_un (by omega), pk_un (by omega), pk_un (by omega)]
  have E1 : upd (upd (upd f (80 + 3 * K) a) (80 + 3 * K + 1) c) (80 + 3 * K + 2) d (80 + 3 * K) = a := by rw [pk_un (by omega), pk_un (by omega), pk_us]
  have E2 : upd (upd (upd f (80 + 3 * K) a) (80 + 3 * K + 1) c) (80 + 3 * K + 2) d (80 + 3 * K + 1) = c := by rw [pk_un (by omega), pk_us]
  have E3 : ∀ j : Nat, j < 80 + 3 * K → upd (upd (upd f (80 + 3 * K) a) (80 + 3 * K + 1) c) (80 + 3 * K + 2) d j = f j := fun j hj => by rw [pk_un (by omega), pk_un (by omega), pk_un (by omega)]
  generalize hh3 : h2.set 183 (.inr (.inl (0, 230, upd (upd (upd f (80 + 3 * K) a) (80 + 3 * K + 1) c) (80 + 3 * K + 2) d))) = h3 at R3 M3 I3 s62
  generalize hg3 : upd (upd (upd f (80 + 3 * K) a) (80 + 3 * K + 1) c) (80 + 3 * K + 2) d = f3 at R3 E0 E1 E2 E3
  have s69 : ∀ (ls : List (Nat × cV)) (st : List cV), cOne (calF (Trm 2)) eM242 none (69, ls, cI (Int32.ofInt 0) :: cR 183 :: st, h3) = some (70, ls, cI (f3 0) :: st, h3) := fun ls st => o_iald (i := Int32.ofInt 0) rfl R3 rfl
  have s72 := st 72 (Int32.ofInt 0) (f3 0 + Int32.ofInt 1) f3 h3 0 rfl R3 rfl rfl
  have R4 : (h3.set 183 (.inr (.inl (0, 230, upd f3 0 (f3 0 + Int32.ofInt 1)))))[183]? = some (.inr (.inl (0, 230, upd f3 0 (f3 0 + Int32.ofInt 1)))) := rw_eq R3
  have M4 : (h3.set 183 (.inr (.inl (0, 230, upd f3 0 (f3 0 + Int32.ofInt 1)))))[170]? = some (.inl (12, vs)) := rw_ne (by decide) M3
  have I4 : (h3.set 183 (.inr (.inl (0, 230, upd f3 0 (f3 0 + Int32.ofInt 1)))))[203]? = h[203]? := (List.getElem?_set_ne (by decide)).trans I3
  generalize hh4 : h3.set 183 (.inr (.inl (0, 230, upd f3 0 (f3 0 + Int32.ofInt 1)))) = h4 at R4 M4 I4 s72
  have s78 : ∀ (ls : List (Nat × cV)) (st : List cV), cOne (calF (Trm 2)) eM242 none (78, ls, cI (Int32.ofInt 0) :: cR 183 :: st, h4) = some (79, ls, cI (upd f3 0 (f3 0 + Int32.ofInt 1) 0) :: st, h4) := fun ls st => o_iald (i := Int32.ofInt 0) rfl R4 rfl
  have g33 : Go (calF (Trm 2)) eM242 none (0, tkL a c d, [], h) (35, tkM A a c d, [], h) := p17 _ (Go.step (o_if_t (t := 22) rfl rfl (decide_eq_true c1)) (Go.step (o_step rfl rfl) (Go.step (o_step rfl rfl) (Go.step (o_aload_n (i := 0) rfl rfl) (Go.step (o_get rfl rfl rfl m1 m26) (Go.step (o_step rfl rfl) (Go.step (s30 _ _) (Go.step (o_step rfl rfl) (Go.step s32 (Go.step (o_ist rfl rfl) Go.rf))))))))))
  have g43 : Go (calF (Trm 2)) eM242 none (35, tkM A a c d, [], h) (43, tkM A a c d, [], h1) := Go.step (o_aload_n (i := 0) rfl rfl) (Go.step (o_get rfl rfl rfl m1 m26) (Go.step (o_iload rfl rfl) (Go.step (o_iload_n (i := 1) rfl rfl) (Go.step (s42 _ _) Go.rf))))
  have g53 : Go (calF (Trm 2)) eM242 none (43, tkM A a c d, [], h1) (53, tkM A a c d, [], h2) := Go.step (o_aload_n (i := 0) rfl rfl) (Go.step (o_get rfl rfl rfl M1 m26) (Go.step (o_iload rfl rfl) (Go.step (o_step rfl rfl) (Go.step (o_step rfl rfl) (Go.step (o_iload_n (i := 2) rfl rfl) (Go.step (s52 _ _) Go.rf))))))
  have g63 : Go (calF (Trm 2)) eM242 none (53, tkM A a c d, [], h2) (63, tkM A a c d, [], h3) := Go.step (o_aload_n (i := 0) rfl rfl) (Go.step (o_get rfl rfl rfl M2 m26) (Go.step (o_iload rfl rfl) (Go.step (o_step rfl rfl) (Go.step (o_step rfl rfl) (Go.step (o_iload_n (i := 3) rfl rfl) (Go.step (s62 _ _) Go.rf))))))
  have g73 : Go (calF (Trm 2)) eM242 none (63, tkM A a c d, [], h3) (73, tkM A a c d, [], h4) := Go.step (o_aload_n (i := 0) rfl rfl) (Go.step (o_get rfl rfl rfl M3 m26) (Go.step (o_step rfl rfl) (Go.step (o_step rfl rfl) (Go.step (s69 _ _) (Go.step (o_step rfl rfl) (Go.step (o_step rfl rfl) (Go.step (s72 _ _) Go.rf)))))))
  refine ⟨_, h4, Trm_succ.mpr ⟨eM242, (81, tkM A a c d, [cI (upd f3 0 (f3 0 + Int32.ofInt 1) 0 - Int32.ofInt 1)], h4), rfl, Nat.le_of_ble_eq_true rfl, g33.trans (g43.trans (g53.trans (g63.trans (g73.trans (Go.step (o_aload_n (i := 0) rfl rfl) (Go.step (o_get rfl rfl rfl M4 m26) (Go.step (o_step rfl rfl) (Go.step (s78 _ _) (Go.step (o_step rfl rfl) (Go.step (o_step rfl rfl) Go.rf)))))))))), rfl⟩, fun g hg t ht => ?_, fun g hg => hn.2 g (by rw [← I4]; exact hg)⟩
  rw [R4] at hg
  cases hg
  rw [pk_us, E0, i32_add (by rw [one_i]; omega) (by rw [one_i]; omega), one_i] at ht
  rw [pk_un (by omega), pk_un (by omega)]
  by_cases e : t = K
  · subst e
    rw [E1, E2]
    exact hac
  · rw [E3 (80 + 3 * t) (by omega), E3 (80 + 3 * t + 1) (by omega)]
    exact hn.1 f r3 t (by omega)
theorem ow_talk : owM 242 3 := fun h hi as hl => by
  match as, hl with
  | [a, b, c], _ =>
    obtain ⟨r, h2, t1, t2⟩ := pu_m4 hi.2.1 (as := [a, b, c]) rfl
    obtain ⟨r', h2', u1, u2⟩ := tk_ns hi.1 hi.2.2 a b c
    have e := (Trm_det u1 t1).2
    subst e
    exact ⟨r, h2', Trm_le (by decide) t1, t2.1, t2, u2⟩
