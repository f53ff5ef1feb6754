/-! THE WAY, 12: goesBehind, its first half -/
abbrev gbL (fw fm : Nat → Int32) (T : Nat) (t k u p r : Int32) : List (Nat × cV) := [(7, cI (fm T)), (6, cI (fw T)), (0, cR 170), (1, cI t), (2, cI k), (3, cI u), (4, cI p), (5, cI r)]
/-- the first five questions -/
def gbA (fw fm fn f ft : Nat → Int32) (fo T : Nat) (u r : Int32) : Prop := ft T ≠ 0 ∧ ofF r (fw T) ≠ 0 ∧ ofF u (fw T) = 0 ∧ hrF f (fm T) (fw T) (fn T) ≠ 0 ∧ ofF (Int32.ofNat fo) (fm T) = 0
theorem gb_a {fw fm fn f ft : Nat → Int32} {fo mn T : Nat} {t k u p r : Int32} {h : List cC} (hG : HG TT [] h) (hk : TX fw fm fn f fo mn h) (r6 : h[196]? = some (.inr (.inl (2, 31, ft)))) (ht : t.toInt = T) (hT : T < mn) : (gbA fw fm fn f ft fo T u r → Go (calF (Trm 4)) eM184 none (0, [(0, cR 170), (1, cI t), (2, cI k), (3, cI u), (4, cI p), (5, cI r)], [], h) (75, gbL fw fm T t k u p r, [], h)) ∧ (¬ gbA fw fm fn f ft fo T u r → Go (calF (Trm 4)) eM184 none (0, [(0, cR 170), (1, cI t), (2, cI k), (3, cI u), (4, cI p), (5, cI r)], [], h) (74, gbL fw fm T t k u p r, [cI (Int32.ofInt 0)], h)) := by
  obtain ⟨r1, r2, r3, r4, r5, k6, hmn, hfo, hns⟩ := hk
  obtain ⟨vs, m1, _⟩ := mo_at hG
  have m27 := mo_j hG m1 (j := 27) (k := 184) rfl
  have m28 := mo_j hG m1 (j := 28) (k := 185) rfl
  have m29 := mo_j hG m1 (j := 29) (k := 186) rfl
  have m42 := mo_j hG m1 (j := 42) (k := 196) rfl
  obtain ⟨x, x1, x2⟩ := fv_at m1 k6
  have ex : x = Int32.ofNat fo := i32_nat x2
  subst ex
  obtain ⟨i1, i2⟩ := in_B (n := 31) ht (by omega)
  have s5 : ∀ (ls : List (Nat × cV)) (st : List cV), cOne (calF (Trm 4)) eM184 none (5, ls, cI t :: cR 184 :: st, h) = some (6, ls, cI (fw T) :: st, h) := fun ls st => by
    have := o_iald (call := calF (Trm 4)) (M := eM184) (sc := none) (pc := 5) (ls := ls) (st := st) rfl r1 i1
    rw [i2] at this
    exact this
  have s13 : ∀ (ls : List (Nat × cV)) (st : List cV), cOne (calF (Trm 4)) eM184 none (13, ls, cI t :: cR 185 :: st, h) = some (14, ls, cI (fm T) :: st, h) := fun ls st => by
    have := o_iald (call := calF (Trm 4)) (M := eM184) (sc := none) (pc := 13) (ls := ls) (st := st) rfl r2 i1
    rw [i2] at this
    exact this
  have s21 : ∀ (ls : List (Nat × cV)) (st : List cV), cOne (calF (Trm 4)) eM184 none (21, ls, cI t :: cR 196 :: st, h) = some (22, ls, cI (ft T) :: st, h) := fun ls st => by
    have := o_bald2 (call := calF (Trm 4)) (M := eM184) (pc := 21) (ls := ls) (st := st) rfl r6 i1
    rw [i2] at this
    exact this
  have s54 : ∀ (ls : List (Nat × cV)) (st : List cV), cOne (calF (Trm 4)) eM184 none (54, ls, cI t :: cR 186 :: st, h) = some (55, ls, cI (fn T) :: st, h) := fun ls st => by
    have := o_iald (call := calF (Trm 4)) (M := eM184) (sc := none) (pc := 54) (ls := ls) (st := st) rfl r3 i1
    rw [i2] at this
    exact this
  have so : ∀ (pc idx : Nat) (a b : Int32), fnd (m_il eM184) pc = some (.invokestatic idx, 3) → fnd (mTab.getD (m_o eM184) []) idx = some (0, 201) → cOne (calF (Trm 4)) eM184 none (pc, gbL fw fm T t k u p r, [cI b, cI a], h) = some (pc + 3, gbL fw fm T t k u p r, [cI (ofF a b)], h) := fun pc idx a b hf ht => gh_st (d := 4) (mi := 201) (N := eM201) (pc := pc) (ls := gbL fw fm T t k u p r) (st := [cI b, cI a]) (r := some (cI (ofF a b))) hf ht rfl rfl rfl (Trm_le (by decide) (of_trm _ _))
  have s55 : cOne (calF (Trm 4)) eM184 none (55, gbL fw fm T t k u p r, [cI (fn T), cI (fw T), cI (fm T), cR 170], h) = some (58, gbL fw fm T t k u p r, [cI (hrF f (fm T) (fw T) (fn T))], h) := gh_inv (d := 4) (mi := 187) (N := eM187) (pc := 55) (ls := gbL fw fm T t k u p r) (st := [cI (fn T), cI (fw T), cI (fm T), cR 170]) (r := some (cI (hrF f (fm T) (fw T) (fn T)))) rfl rfl rfl rfl rfl (by show recC h 12 [cR 170, cI (fm T), cI (fw T), cI (fn T)] = true; unfold recC; dsimp only; rw [m1]; rfl) (Trm_le (by decide) (he_trm hG r4 (fm T) (fw T) (fn T)))
  have p22 : ∀ S : cS, Go (calF (Trm 4)) eM184 none (22, gbL fw fm T t k u p r, [cI (ft T)], h) S → Go (calF (Trm 4)) eM184 none (0, [(0, cR 170), (1, cI t), (2, cI k), (3, cI u), (4, cI p), (5, cI r)], [], h) S := fun S hs => Go.step (o_aload_n (i := 0) rfl rfl) (Go.step (o_get rfl rfl rfl m1 m27) (Go.step (o_iload_n (i := 1) rfl rfl) (Go.step (s5 _ _) (Go.step (o_ist rfl rfl) (Go.step (o_aload_n (i := 0) rfl rfl) (Go.step (o_get rfl rfl rfl m1 m28) (Go.step (o_iload_n (i := 1) rfl rfl) (Go.step (s13 _ _) (Go.step (o_ist rfl rfl) (Go.step (o_aload_n (i := 0) rfl rfl) (Go.step (o_get rfl rfl rfl m1 m42) (Go.step (o_iload_n (i := 1) rfl rfl) (Go.step (s21 _ _) hs)))))))))))))
  have p32 : ∀ S : cS, Go (calF (Trm 4)) eM184 none (32, gbL fw fm T t k u p r, [cI (ofF r (fw T))], h) S → Go (calF (Trm 4)) eM184 none (25, gbL fw fm T t k u p r, [], h) S := fun S hs => Go.step (o_iload rfl rfl) (Go.step (o_iload rfl rfl) (Go.step (so 29 330 _ _ rfl rfl) hs))
  have p41 : ∀ S : cS, Go (calF (Trm 4)) eM184 none (41, gbL fw fm T t k u p r, [cI (ofF u (fw T))], h) S → Go (calF (Trm 4)) eM184 none (35, gbL fw fm T t k u p r, [], h) S := fun S hs => Go.step (o_iload_n (i := 3) rfl rfl) (Go.step (o_iload rfl rfl) (Go.step (so 38 330 _ _ rfl rfl) hs))
  have p58 : ∀ S : cS, Go (calF (Trm 4)) eM184 none (58, gbL fw fm T t k u p r, [cI (hrF f (fm T) (fw T) (fn T))], h) S → Go (calF (Trm 4)) eM184 none (44, gbL fw fm T t k u p r, [], h) S := fun S hs => Go.step (o_aload_n (i := 0) rfl rfl) (Go.step (o_iload rfl rfl) (Go.step (o_iload rfl rfl) (Go.step (o_aload_n (i := 0) rfl rfl) (Go.step (o_get rfl rfl rfl m1 m29) (Go.step (o_iload_n (i := 1) rfl rfl) (Go.step (s54 _ _) (Go.step s55 hs)))))))
  have p70 : ∀ S : cS, Go (calF (Trm 4)) eM184 none (70, gbL fw fm T t k u p r, [cI (ofF (Int32.ofNat fo) (fm T))], h) S → Go (calF (Trm 4)) eM184 none (61, gbL fw fm T t k u p r, [], h) S := fun S hs => Go.step (o_aload_n (i := 0) rfl rfl) (Go.step (o_get rfl rfl rfl m1 x1) (Go.step (o_iload rfl rfl) (Go.step (so 67 330 _ _ rfl rfl) hs)))
  have no : Go (calF (Trm 4)) eM184 none (73, gbL fw fm T t k u p r, [], h) (74, gbL fw fm T t k u p r, [cI (Int32.ofInt 0)], h) := Go.step (o_step rfl rfl) Go.rf
  by_cases c1 : ft T = 0
  · exact ⟨fun z => absurd c1 z.1, fun _ => p22 _ (Go.step (o_if_t (t := 73) rfl rfl (decide_eq_true c1)) no)⟩
  · by_cases c2 : ofF r (fw T) = 0
    · exact ⟨fun z => absurd c2 z.2.1, fun _ => p22 _ (Go.step (o_if_f (t := 73) rfl rfl (decide_eq_false c1)) (p32 _ (Go.step (o_if_t (t := 73) rfl rfl (decide_eq_true c2)) no)))⟩
    · by_cases c3 : ofF u (fw T) = 0
      · by_cases c4 : hrF f (fm T) (fw T) (fn T) = 0
        · exact ⟨fun z => absurd c4 z.2.2.2.1, fun _ => p22 _ (Go.step (o_if_f (t := 73) rfl rfl (decide_eq_false c1)) (p32 _ (Go.step (o_if_f (t := 73) rfl rfl (decide_eq_false c2)) (p41 _ (Go.step (o_if_f (t := 73) rfl rfl (decide_eq_false (fun z => z c3))) (p58 _ (Go.step (o_if_t (t := 73) rfl rfl (decide_eq_true c4)) no)))))))⟩
        · by_cases c5 : ofF (Int32.ofNat fo) (fm T) = 0
          · exact ⟨fun _ => p22 _ (Go.step (o_if_f (t := 73) rfl rfl (decide_eq_false c1)) (p32 _ (Go.step (o_if_f (t := 73) rfl rfl (decide_eq_false c2)) (p41 _ (Go.step (o_if_f (t := 73) rfl rfl (decide_eq_false (fun z => z c3))) (p58 _ (Go.step (o_if_f (t := 73) rfl rfl (decide_eq_false c4)) (p70 _ (Go.step (o_if_t (t := 75) rfl rfl (decide_eq_true c5)) Go.rf))))))))), fun z => absurd ⟨c1, c2, c3, c4, c5⟩ z⟩
          · exact ⟨fun z => absurd z.2.2.2.2 c5, fun _ => p22 _ (Go.step (o_if_f (t := 73) rfl rfl (decide_eq_false c1)) (p32 _ (Go.step (o_if_f (t := 73) rfl rfl (decide_eq_false c2)) (p41 _ (Go.step (o_if_f (t := 73) rfl rfl (decide_eq_false (fun z => z c3))) (p58 _ (Go.step (o_if_f (t := 73) rfl rfl (decide_eq_false c4)) (p70 _ (Go.step (o_if_f (t := 75) rfl rfl (decide_eq_false c5)) no)))))))))⟩
      · exact ⟨fun z => absurd z.2.2.1 c3, fun _ => p22 _ (Go.step (o_if_f (t := 73) rfl rfl (decide_eq_false c1)) (p32 _ (Go.step (o_if_f (t := 73) rfl rfl (decide_eq_false c2)) (p41 _ (Go.step (o_if_t (t := 73) rfl rfl (decide_eq_true c3)) no)))))⟩
