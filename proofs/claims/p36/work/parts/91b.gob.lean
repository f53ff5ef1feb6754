/-! THE WAY, 13: goesBehind, its second half -/
theorem ofF_nz {s k : Int32} {x : Nat} (hs : s.toInt = x) (hx : x < 1024) (h0 : 0 ≤ k.toInt) (h9 : k.toInt ≤ 9) : ofF s k ≠ 0 ↔ bOf x k.toInt.toNat = true := by
  have e1 : s = Int32.ofNat x := i32_nat hs
  have e2 : k = Int32.ofNat k.toInt.toNat := i32_nat (by omega)
  have h := ofF_of (x := x) (k := k.toInt.toNat) hx (by omega)
  rw [← e1, ← e2] at h
  rw [h]
  cases bOf x k.toInt.toNat with
  | true => exact ⟨fun _ => rfl, fun _ => by decide⟩
  | false => exact ⟨fun z => absurd rfl z, fun z => by cases z⟩
/-- the place: the first of them, or behind the one before -/
def gbB (fw fm fn wt : Nat → Int32) (fo T K : Nat) : Prop := (K = 0 → ofF (Int32.ofNat fo) (fw T) ≠ 0) ∧ (∀ k1 : Nat, K = k1 + 1 → fm (wt k1).toInt.toNat = fw T ∧ (fn (wt k1).toInt.toNat).toInt < (fn T).toInt)
theorem gb_b {fw fm fn f wt : Nat → Int32} {fo mn T K : Nat} {t k u p r : Int32} {h : List cC} (hG : HG TT [] h) (hk : TX fw fm fn f fo mn h) (r9 : h[201]? = some (.inr (.inl (0, 10, wt)))) (ht : t.toInt = T) (hT : T < mn) (hkk : k.toInt = K) (hK : K < 10) (hw : ∀ i : Nat, i < K → 0 ≤ (wt i).toInt ∧ (wt i).toInt < mn) : (gbB fw fm fn wt fo T K → Go (calF (Trm 4)) eM184 none (75, gbL fw fm T t k u p r, [], h) (136, gbL fw fm T t k u p r, [], h)) ∧ (¬ gbB fw fm fn wt fo T K → Go (calF (Trm 4)) eM184 none (75, gbL fw fm T t k u p r, [], h) (135, gbL fw fm T t k u p r, [cI (Int32.ofInt 0)], h)) := by
  obtain ⟨r1, r2, r3, r4, r5, k6, hmn, hfo, hns⟩ := hk
  obtain ⟨vs, m1, _⟩ := mo_at hG
  have m28 := mo_j hG m1 (j := 28) (k := 185) rfl
  have m29 := mo_j hG m1 (j := 29) (k := 186) rfl
  have m47 := mo_j hG m1 (j := 47) (k := 201) rfl
  obtain ⟨x, x1, x2⟩ := fv_at m1 k6
  have ex : x = Int32.ofNat fo := i32_nat x2
  subst ex
  have no : Go (calF (Trm 4)) eM184 none (134, gbL fw fm T t k u p r, [], h) (135, gbL fw fm T t k u p r, [cI (Int32.ofInt 0)], h) := Go.step (o_step rfl rfl) Go.rf
  cases K with
  | zero =>
    have e0 : k = 0 := Int32.toInt_inj.mp (by rw [hkk]; rfl)
    have hd : cDec .ne k 0 = false := decide_eq_false (fun z => z e0)
    have s85 : cOne (calF (Trm 4)) eM184 none (85, gbL fw fm T t k u p r, [cI (fw T), cI (Int32.ofNat fo)], h) = some (88, gbL fw fm T t k u p r, [cI (ofF (Int32.ofNat fo) (fw T))], h) := gh_st (d := 4) (mi := 201) (N := eM201) (pc := 85) (ls := gbL fw fm T t k u p r) (st := [cI (fw T), cI (Int32.ofNat fo)]) (r := some (cI (ofF (Int32.ofNat fo) (fw T)))) rfl rfl rfl rfl rfl (Trm_le (by decide) (of_trm _ _))
    have p88 : ∀ S : cS, Go (calF (Trm 4)) eM184 none (88, gbL fw fm T t k u p r, [cI (ofF (Int32.ofNat fo) (fw T))], h) S → Go (calF (Trm 4)) eM184 none (75, gbL fw fm T t k u p r, [], h) S := fun S hs => Go.step (o_iload_n (i := 2) rfl rfl) (Go.step (o_if_f (t := 94) rfl rfl hd) (Go.step (o_aload_n (i := 0) rfl rfl) (Go.step (o_get rfl rfl rfl m1 x1) (Go.step (o_iload rfl rfl) (Go.step s85 hs)))))
    by_cases c : ofF (Int32.ofNat fo) (fw T) = 0
    · exact ⟨fun z => absurd c (z.1 rfl), fun _ => p88 _ (Go.step (o_if_f (t := 136) rfl rfl (decide_eq_false (fun z => z c))) (Go.step (o_step rfl rfl) no))⟩
    · exact ⟨fun _ => p88 _ (Go.step (o_if_t (t := 136) rfl rfl (decide_eq_true c)) Go.rf), fun z => absurd ⟨fun _ => c, fun k1 e => by omega⟩ z⟩
  | succ K1 =>
    have hd : cDec .ne k 0 = true := decide_eq_true (fun z => by
      rw [z] at hkk
      have z0 : (0 : Int32).toInt = 0 := rfl
      omega)
    obtain ⟨w0, w1⟩ := hw K1 (by omega)
    have a1 : (k - Int32.ofInt 1).toInt = (K1 : Nat) := by
      rw [i32_sub (by rw [one_i]; omega) (by rw [one_i]; omega), one_i]
      omega
    obtain ⟨i1, i2⟩ := in_B (n := 10) a1 (by omega)
    obtain ⟨j1, j2⟩ := in_B (x := wt K1) (n := 31) (k := (wt K1).toInt.toNat) (by omega) (by omega)
    obtain ⟨t1, t2⟩ := in_B (n := 31) ht (by omega)
    have sa : ∀ (pc : Nat) (ls : List (Nat × cV)) (st : List cV), fnd (m_il eM184) pc = some (.iaload, 1) → cOne (calF (Trm 4)) eM184 none (pc, ls, cI (k - Int32.ofInt 1) :: cR 201 :: st, h) = some (pc + 1, ls, cI (wt K1) :: st, h) := fun pc ls st hf => by
      have := o_iald (call := calF (Trm 4)) (M := eM184) (sc := none) (pc := pc) (ls := ls) (st := st) hf r9 i1
      rw [i2] at this
      exact this
    have s106 : ∀ (ls : List (Nat × cV)) (st : List cV), cOne (calF (Trm 4)) eM184 none (106, ls, cI (wt K1) :: cR 185 :: st, h) = some (107, ls, cI (fm (wt K1).toInt.toNat) :: st, h) := fun ls st => by
      have := o_iald (call := calF (Trm 4)) (M := eM184) (sc := none) (pc := 106) (ls := ls) (st := st) rfl r2 j1
      rw [j2] at this
      exact this
    have s124 : ∀ (ls : List (Nat × cV)) (st : List cV), cOne (calF (Trm 4)) eM184 none (124, ls, cI (wt K1) :: cR 186 :: st, h) = some (125, ls, cI (fn (wt K1).toInt.toNat) :: st, h) := fun ls st => by
      have := o_iald (call := calF (Trm 4)) (M := eM184) (sc := none) (pc := 124) (ls := ls) (st := st) rfl r3 j1
      rw [j2] at this
      exact this
    have s130 : ∀ (ls : List (Nat × cV)) (st : List cV), cOne (calF (Trm 4)) eM184 none (130, ls, cI t :: cR 186 :: st, h) = some (131, ls, cI (fn T) :: st, h) := fun ls st => by
      have := o_iald (call := calF (Trm 4)) (M := eM184) (sc := none) (pc := 130) (ls := ls) (st := st) rfl r3 t1
      rw [t2] at this
      exact this
    have p109 : ∀ S : cS, Go (calF (Trm 4)) eM184 none (109, gbL fw fm T t k u p r, [cI (fw T), cI (fm (wt K1).toInt.toNat)], h) S → Go (calF (Trm 4)) eM184 none (75, gbL fw fm T t k u p r, [], h) S := fun S hs => Go.step (o_iload_n (i := 2) rfl rfl) (Go.step (o_if_t (t := 94) rfl rfl hd) (Go.step (o_aload_n (i := 0) rfl rfl) (Go.step (o_get rfl rfl rfl m1 m28) (Go.step (o_aload_n (i := 0) rfl rfl) (Go.step (o_get rfl rfl rfl m1 m47) (Go.step (o_iload_n (i := 2) rfl rfl) (Go.step (o_step rfl rfl) (Go.step (o_step rfl rfl) (Go.step (sa 105 _ _ rfl) (Go.step (s106 _ _) (Go.step (o_iload rfl rfl) hs)))))))))))
    have p131 : ∀ S : cS, Go (calF (Trm 4)) eM184 none (131, gbL fw fm T t k u p r, [cI (fn T), cI (fn (wt K1).toInt.toNat)], h) S → Go (calF (Trm 4)) eM184 none (112, gbL fw fm T t k u p r, [], h) S := fun S hs => Go.step (o_aload_n (i := 0) rfl rfl) (Go.step (o_get rfl rfl rfl m1 m29) (Go.step (o_aload_n (i := 0) rfl rfl) (Go.step (o_get rfl rfl rfl m1 m47) (Go.step (o_iload_n (i := 2) rfl rfl) (Go.step (o_step rfl rfl) (Go.step (o_step rfl rfl) (Go.step (sa 123 _ _ rfl) (Go.step (s124 _ _) (Go.step (o_aload_n (i := 0) rfl rfl) (Go.step (o_get rfl rfl rfl m1 m29) (Go.step (o_iload_n (i := 1) rfl rfl) (Go.step (s130 _ _) hs))))))))))))
    by_cases c1 : fm (wt K1).toInt.toNat = fw T
    · by_cases c2 : (fn (wt K1).toInt.toNat).toInt < (fn T).toInt
      · have hd2 : cDec .lt (fn (wt K1).toInt.toNat) (fn T) = true := decide_eq_true (Int32.lt_iff_toInt_lt.mpr c2)
        exact ⟨fun _ => p109 _ (Go.step (o_ic_f (t := 134) rfl rfl (decide_eq_false (fun z => z c1))) (p131 _ (Go.step (o_ic_t (t := 136) rfl rfl hd2) Go.rf))), fun z => absurd ⟨fun e => by omega, fun k1 e => by
          have e2 : k1 = K1 := by omega
          subst e2
          exact ⟨c1, c2⟩⟩ z⟩
      · have hd2 : cDec .lt (fn (wt K1).toInt.toNat) (fn T) = false := decide_eq_false (fun z => c2 (Int32.lt_iff_toInt_lt.mp z))
        exact ⟨fun z => absurd (z.2 K1 rfl).2 c2, fun _ => p109 _ (Go.step (o_ic_f (t := 134) rfl rfl (decide_eq_false (fun z => z c1))) (p131 _ (Go.step (o_ic_f (t := 136) rfl rfl hd2) no)))⟩
    · exact ⟨fun z => absurd (z.2 K1 rfl).1 c1, fun _ => p109 _ (Go.step (o_ic_t (t := 134) rfl rfl (decide_eq_true c1)) no)⟩
/-- the last of them, or one between -/
def gbC (fm fn fr : Nat → Int32) (T K P R : Nat) (u p r : Int32) : Prop := (K + 1 = bN R → fm T = p ∧ fn T = fr (1024 * P + R)) ∧ (K + 1 ≠ bN R → ofF r (fm T) ≠ 0 ∧ ofF u (fm T) = 0)
theorem gb_c {fw fm fn f fr : Nat → Int32} {fo mn T K P R : Nat} {t k u p r : Int32} {h : List cC} (hG : HG TT [] h) (hk : TX fw fm fn f fo mn h) (r8 : h[188]? = some (.inr (.inl (0, 10240, fr)))) (ht : t.toInt = T) (hT : T < mn) (hkk : k.toInt = K) (hK : K < 10) (hp : p.toInt = P) (hP : P < 10) (hr : r.toInt = R) (hR : R < 1024) (hN : bN R ≤ 9) : ∃ b : Int32, (b = Int32.ofInt 1 ∨ b = Int32.ofInt 0) ∧ Go (calF (Trm 4)) eM184 none (136, gbL fw fm T t k u p r, [], h) (209, gbL fw fm T t k u p r, [cI b], h) ∧ (b ≠ 0 ↔ gbC fm fn fr T K P R u p r) := by
  obtain ⟨r1, r2, r3, r4, r5, k6, hmn, hfo, hns⟩ := hk
  obtain ⟨vs, m1, _⟩ := mo_at hG
  have m29 := mo_j hG m1 (j := 29) (k := 186) rfl
  have m34 := mo_j hG m1 (j := 34) (k := 188) rfl
  have er : r = Int32.ofNat R := i32_nat hr
  have z1 : Int32.ofInt 1 ≠ 0 := by decide
  have z0 : ¬ (Int32.ofInt 0 ≠ 0) := by decide
  have s139 : cOne (calF (Trm 4)) eM184 none (139, gbL fw fm T t k u p r, [cI r, cI k], h) = some (142, gbL fw fm T t k u p r, [cI (Int32.ofNat (bN R)), cI k], h) := gh_st (d := 4) (mi := 158) (N := eM158) (pc := 139) (ls := gbL fw fm T t k u p r) (st := [cI r, cI k]) (r := some (cI (Int32.ofNat (bN R)))) rfl rfl rfl rfl rfl (by
    rw [er]
    exact Trm_le (by decide) (bt_trm hR))
  have hb : (Int32.ofNat (bN R) - Int32.ofInt 1).toInt = (bN R : Int) - 1 := by
    have e := nat_i (n := bN R) (by omega)
    rw [i32_sub (by rw [e, one_i]; omega) (by rw [e, one_i]; omega), e, one_i]
  have p144 : ∀ S : cS, Go (calF (Trm 4)) eM184 none (144, gbL fw fm T t k u p r, [cI (Int32.ofNat (bN R) - Int32.ofInt 1), cI k], h) S → Go (calF (Trm 4)) eM184 none (136, gbL fw fm T t k u p r, [], h) S := fun S hs => Go.step (o_iload_n (i := 2) rfl rfl) (Go.step (o_iload rfl rfl) (Go.step s139 (Go.step (o_step rfl rfl) (Go.step (o_step rfl rfl) hs))))
  have so : ∀ (pc idx : Nat) (a b : Int32), fnd (m_il eM184) pc = some (.invokestatic idx, 3) → fnd (mTab.getD (m_o eM184) []) idx = some (0, 201) → cOne (calF (Trm 4)) eM184 none (pc, gbL fw fm T t k u p r, [cI b, cI a], h) = some (pc + 3, gbL fw fm T t k u p r, [cI (ofF a b)], h) := fun pc idx a b hf ht => gh_st (d := 4) (mi := 201) (N := eM201) (pc := pc) (ls := gbL fw fm T t k u p r) (st := [cI b, cI a]) (r := some (cI (ofF a b))) hf ht rfl rfl rfl (Trm_le (by decide) (of_trm _ _))
  have no1 : Go (calF (Trm 4)) eM184 none (181, gbL fw fm T t k u p r, [], h) (209, gbL fw fm T t k u p r, [cI (Int32.ofInt 0)], h) := Go.step (o_step rfl rfl) (Go.step (o_step rfl rfl) Go.rf)
  have no2 : Go (calF (Trm 4)) eM184 none (208, gbL fw fm T t k u p r, [], h) (209, gbL fw fm T t k u p r, [cI (Int32.ofInt 0)], h) := Go.step (o_step rfl rfl) Go.rf
  by_cases c0 : K + 1 = bN R
  · have hd : cDec .ne k (Int32.ofNat (bN R) - Int32.ofInt 1) = false := decide_eq_false (fun z => z (Int32.toInt_inj.mp (by rw [hb]; omega)))
    have e1024 : ((Int16.ofInt 1024).toInt32).toInt = 1024 := rfl
    have a1 : ((Int16.ofInt 1024).toInt32 * p).toInt = 1024 * p.toInt := by rw [i32_mul (by rw [e1024]; omega) (by rw [e1024]; omega), e1024]
    have a2 : ((Int16.ofInt 1024).toInt32 * p + r).toInt = ((1024 * P + R : Nat) : Int) := by
      rw [i32_add (by omega) (by omega), a1]
      omega
    obtain ⟨i1, i2⟩ := in_B (n := 10240) a2 (by omega)
    obtain ⟨t1, t2⟩ := in_B (n := 31) ht (by omega)
    have s159 : ∀ (ls : List (Nat × cV)) (st : List cV), cOne (calF (Trm 4)) eM184 none (159, ls, cI t :: cR 186 :: st, h) = some (160, ls, cI (fn T) :: st, h) := fun ls st => by
      have := o_iald (call := calF (Trm 4)) (M := eM184) (sc := none) (pc := 159) (ls := ls) (st := st) rfl r3 t1
      rw [t2] at this
      exact this
    have s173 : ∀ (ls : List (Nat × cV)) (st : List cV), cOne (calF (Trm 4)) eM184 none (173, ls, cI ((Int16.ofInt 1024).toInt32 * p + r) :: cR 188 :: st, h) = some (174, ls, cI (fr (1024 * P + R)) :: st, h) := fun ls st => by
      have := o_iald (call := calF (Trm 4)) (M := eM184) (sc := none) (pc := 173) (ls := ls) (st := st) rfl r8 i1
      rw [i2] at this
      exact this
    have p151 : ∀ S : cS, Go (calF (Trm 4)) eM184 none (151, gbL fw fm T t k u p r, [cI p, cI (fm T)], h) S → Go (calF (Trm 4)) eM184 none (136, gbL fw fm T t k u p r, [], h) S := fun S hs => p144 _ (Go.step (o_ic_f (t := 185) rfl rfl hd) (Go.step (o_iload rfl rfl) (Go.step (o_iload rfl rfl) hs)))
    have p174 : ∀ S : cS, Go (calF (Trm 4)) eM184 none (174, gbL fw fm T t k u p r, [cI (fr (1024 * P + R)), cI (fn T)], h) S → Go (calF (Trm 4)) eM184 none (154, gbL fw fm T t k u p r, [], h) S := fun S hs => Go.step (o_aload_n (i := 0) rfl rfl) (Go.step (o_get rfl rfl rfl m1 m29) (Go.step (o_iload_n (i := 1) rfl rfl) (Go.step (s159 _ _) (Go.step (o_aload_n (i := 0) rfl rfl) (Go.step (o_get rfl rfl rfl m1 m34) (Go.step (o_step rfl rfl) (Go.step (o_iload rfl rfl) (Go.step (o_step rfl rfl) (Go.step (o_iload rfl rfl) (Go.step (o_step rfl rfl) (Go.step (s173 _ _) hs)))))))))))
    by_cases c1 : fm T = p
    · by_cases c2 : fn T = fr (1024 * P + R)
      · exact ⟨Int32.ofInt 1, Or.inl rfl, p151 _ (Go.step (o_ic_f (t := 181) rfl rfl (decide_eq_false (fun z => z c1))) (p174 _ (Go.step (o_ic_f (t := 181) rfl rfl (decide_eq_false (fun z => z c2))) (Go.step (o_step rfl rfl) (Go.step (o_step rfl rfl) Go.rf))))), fun _ => ⟨fun _ => ⟨c1, c2⟩, fun z => absurd c0 z⟩, fun _ => z1⟩
      · exact ⟨Int32.ofInt 0, Or.inr rfl, p151 _ (Go.step (o_ic_f (t := 181) rfl rfl (decide_eq_false (fun z => z c1))) (p174 _ (Go.step (o_ic_t (t := 181) rfl rfl (decide_eq_true c2)) no1))), fun z => absurd z z0, fun z => absurd (z.1 c0).2 c2⟩
    · exact ⟨Int32.ofInt 0, Or.inr rfl, p151 _ (Go.step (o_ic_t (t := 181) rfl rfl (decide_eq_true c1)) no1), fun z => absurd z z0, fun z => absurd (z.1 c0).1 c1⟩
  · have hd : cDec .ne k (Int32.ofNat (bN R) - Int32.ofInt 1) = true := decide_eq_true (fun z => by
      have := congrArg Int32.toInt z
      rw [hb] at this
      omega)
    have p192 : ∀ S : cS, Go (calF (Trm 4)) eM184 none (192, gbL fw fm T t k u p r, [cI (ofF r (fm T))], h) S → Go (calF (Trm 4)) eM184 none (136, gbL fw fm T t k u p r, [], h) S := fun S hs => p144 _ (Go.step (o_ic_t (t := 185) rfl rfl hd) (Go.step (o_iload rfl rfl) (Go.step (o_iload rfl rfl) (Go.step (so 189 330 _ _ rfl rfl) hs))))
    have p201 : ∀ S : cS, Go (calF (Trm 4)) eM184 none (201, gbL fw fm T t k u p r, [cI (ofF u (fm T))], h) S → Go (calF (Trm 4)) eM184 none (195, gbL fw fm T t k u p r, [], h) S := fun S hs => Go.step (o_iload_n (i := 3) rfl rfl) (Go.step (o_iload rfl rfl) (Go.step (so 198 330 _ _ rfl rfl) hs))
    by_cases c1 : ofF r (fm T) = 0
    · exact ⟨Int32.ofInt 0, Or.inr rfl, p192 _ (Go.step (o_if_t (t := 208) rfl rfl (decide_eq_true c1)) no2), fun z => absurd z z0, fun z => absurd c1 (z.2 c0).1⟩
    · by_cases c2 : ofF u (fm T) = 0
      · exact ⟨Int32.ofInt 1, Or.inl rfl, p192 _ (Go.step (o_if_f (t := 208) rfl rfl (decide_eq_false c1)) (p201 _ (Go.step (o_if_f (t := 208) rfl rfl (decide_eq_false (fun z => z c2))) (Go.step (o_step rfl rfl) (Go.step (o_step rfl rfl) Go.rf))))), fun _ => ⟨fun z => absurd z c0, fun _ => ⟨c1, c2⟩⟩, fun _ => z1⟩
      · exact ⟨Int32.ofInt 0, Or.inr rfl, p192 _ (Go.step (o_if_f (t := 208) rfl rfl (decide_eq_false c1)) (p201 _ (Go.step (o_if_t (t := 208) rfl rfl (decide_eq_true c2)) no2))), fun z => absurd z z0, fun z => absurd (z.2 c0).2 c2⟩
