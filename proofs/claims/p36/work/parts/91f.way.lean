/-! THE WAY, 17: isLaw, isPerson, isSet, isRow; way -/
theorem il_trm {h : List cC} (hG : HG TT [] h) (x : Int32) : ∃ b : Int32, Trm 1 198 [cR 170, cI x] h (some (cI b)) h ∧ (b ≠ 0 → 0 ≤ x.toInt ∧ x.toInt ≤ 5) := by
  obtain ⟨vs, m1, _⟩ := mo_at hG
  obtain ⟨v, v1, v2, v3⟩ := HG_mf hG (j := 2) (b := (0, 6)) rfl
  obtain ⟨y, y1, y2⟩ := fv_at m1 ⟨v, v1, rfl⟩
  have v3 : v.toInt ≤ (6 : Int) := v3
  have z0 : (0 : Int32).toInt = 0 := rfl
  by_cases c1 : x.toInt < 0
  · have hd : cDec .lt x 0 = true := decide_eq_true (Int32.lt_iff_toInt_lt.mpr (by omega))
    exact ⟨Int32.ofInt 0, Trm_succ.mpr ⟨eM198, (17, [(0, cR 170), (1, cI x)], [cI (Int32.ofInt 0)], h), rfl, Nat.le_of_ble_eq_true rfl, Go.step (o_iload_n (i := 1) rfl rfl) (Go.step (o_if_t (t := 16) rfl rfl hd) (Go.step (o_step rfl rfl) Go.rf)), rfl⟩, fun z => absurd rfl z⟩
  · have hd : cDec .lt x 0 = false := decide_eq_false (fun z => c1 (by have := Int32.lt_iff_toInt_lt.mp z; omega))
    by_cases c2 : y.toInt ≤ x.toInt
    · have hd2 : cDec .ge x y = true := decide_eq_true (Int32.le_iff_toInt_le.mpr c2)
      exact ⟨Int32.ofInt 0, Trm_succ.mpr ⟨eM198, (17, [(0, cR 170), (1, cI x)], [cI (Int32.ofInt 0)], h), rfl, Nat.le_of_ble_eq_true rfl, Go.step (o_iload_n (i := 1) rfl rfl) (Go.step (o_if_f (t := 16) rfl rfl hd) (Go.step (o_iload_n (i := 1) rfl rfl) (Go.step (o_aload_n (i := 0) rfl rfl) (Go.step (o_get rfl rfl rfl m1 y1) (Go.step (o_ic_t (t := 16) rfl rfl hd2) (Go.step (o_step rfl rfl) Go.rf)))))), rfl⟩, fun z => absurd rfl z⟩
    · have hd2 : cDec .ge x y = false := decide_eq_false (fun z => c2 (Int32.le_iff_toInt_le.mp z))
      exact ⟨Int32.ofInt 1, Trm_succ.mpr ⟨eM198, (17, [(0, cR 170), (1, cI x)], [cI (Int32.ofInt 1)], h), rfl, Nat.le_of_ble_eq_true rfl, Go.step (o_iload_n (i := 1) rfl rfl) (Go.step (o_if_f (t := 16) rfl rfl hd) (Go.step (o_iload_n (i := 1) rfl rfl) (Go.step (o_aload_n (i := 0) rfl rfl) (Go.step (o_get rfl rfl rfl m1 y1) (Go.step (o_ic_f (t := 16) rfl rfl hd2) (Go.step (o_step rfl rfl) (Go.step (o_step rfl rfl) Go.rf))))))), rfl⟩, fun _ => ⟨by omega, by omega⟩⟩
theorem ip_trm {h : List cC} (x : Int32) : ∃ b : Int32, Trm 1 202 [cI x] h (some (cI b)) h ∧ (b ≠ 0 → 0 ≤ x.toInt ∧ x.toInt ≤ 9) := by
  have z0 : (0 : Int32).toInt = 0 := rfl
  have z10 : ((Int8.ofInt 10).toInt32).toInt = 10 := rfl
  by_cases c1 : x.toInt < 0
  · have hd : cDec .lt x 0 = true := decide_eq_true (Int32.lt_iff_toInt_lt.mpr (by omega))
    exact ⟨Int32.ofInt 0, Trm_succ.mpr ⟨eM202, (15, [(0, cI x)], [cI (Int32.ofInt 0)], h), rfl, Nat.le_of_ble_eq_true rfl, Go.step (o_iload_n (i := 0) rfl rfl) (Go.step (o_if_t (t := 14) rfl rfl hd) (Go.step (o_step rfl rfl) Go.rf)), rfl⟩, fun z => absurd rfl z⟩
  · have hd : cDec .lt x 0 = false := decide_eq_false (fun z => c1 (by have := Int32.lt_iff_toInt_lt.mp z; omega))
    by_cases c2 : 10 ≤ x.toInt
    · have hd2 : cDec .ge x (Int8.ofInt 10).toInt32 = true := decide_eq_true (Int32.le_iff_toInt_le.mpr (by omega))
      exact ⟨Int32.ofInt 0, Trm_succ.mpr ⟨eM202, (15, [(0, cI x)], [cI (Int32.ofInt 0)], h), rfl, Nat.le_of_ble_eq_true rfl, Go.step (o_iload_n (i := 0) rfl rfl) (Go.step (o_if_f (t := 14) rfl rfl hd) (Go.step (o_iload_n (i := 0) rfl rfl) (Go.step (o_step rfl rfl) (Go.step (o_ic_t (t := 14) rfl rfl hd2) (Go.step (o_step rfl rfl) Go.rf))))), rfl⟩, fun z => absurd rfl z⟩
    · have hd2 : cDec .ge x (Int8.ofInt 10).toInt32 = false := decide_eq_false (fun z => c2 (by have := Int32.le_iff_toInt_le.mp z; omega))
      exact ⟨Int32.ofInt 1, Trm_succ.mpr ⟨eM202, (15, [(0, cI x)], [cI (Int32.ofInt 1)], h), rfl, Nat.le_of_ble_eq_true rfl, Go.step (o_iload_n (i := 0) rfl rfl) (Go.step (o_if_f (t := 14) rfl rfl hd) (Go.step (o_iload_n (i := 0) rfl rfl) (Go.step (o_step rfl rfl) (Go.step (o_ic_f (t := 14) rfl rfl hd2) (Go.step (o_step rfl rfl) (Go.step (o_step rfl rfl) Go.rf)))))), rfl⟩, fun _ => ⟨by omega, by omega⟩⟩
theorem is_trm {h : List cC} (x : Int32) : ∃ b : Int32, Trm 1 206 [cI x] h (some (cI b)) h ∧ (b ≠ 0 → 0 ≤ x.toInt ∧ x.toInt ≤ 1023) := by
  have z0 : (0 : Int32).toInt = 0 := rfl
  have z10 : ((Int16.ofInt 1023).toInt32).toInt = 1023 := rfl
  by_cases c1 : x.toInt < 0
  · have hd : cDec .lt x 0 = true := decide_eq_true (Int32.lt_iff_toInt_lt.mpr (by omega))
    exact ⟨Int32.ofInt 0, Trm_succ.mpr ⟨eM206, (16, [(0, cI x)], [cI (Int32.ofInt 0)], h), rfl, Nat.le_of_ble_eq_true rfl, Go.step (o_iload_n (i := 0) rfl rfl) (Go.step (o_if_t (t := 15) rfl rfl hd) (Go.step (o_step rfl rfl) Go.rf)), rfl⟩, fun z => absurd rfl z⟩
  · have hd : cDec .lt x 0 = false := decide_eq_false (fun z => c1 (by have := Int32.lt_iff_toInt_lt.mp z; omega))
    by_cases c2 : 1023 < x.toInt
    · have hd2 : cDec .gt x (Int16.ofInt 1023).toInt32 = true := decide_eq_true (Int32.lt_iff_toInt_lt.mpr (by omega))
      exact ⟨Int32.ofInt 0, Trm_succ.mpr ⟨eM206, (16, [(0, cI x)], [cI (Int32.ofInt 0)], h), rfl, Nat.le_of_ble_eq_true rfl, Go.step (o_iload_n (i := 0) rfl rfl) (Go.step (o_if_f (t := 15) rfl rfl hd) (Go.step (o_iload_n (i := 0) rfl rfl) (Go.step (o_step rfl rfl) (Go.step (o_ic_t (t := 15) rfl rfl hd2) (Go.step (o_step rfl rfl) Go.rf))))), rfl⟩, fun z => absurd rfl z⟩
    · have hd2 : cDec .gt x (Int16.ofInt 1023).toInt32 = false := decide_eq_false (fun z => c2 (by have := Int32.lt_iff_toInt_lt.mp z; omega))
      exact ⟨Int32.ofInt 1, Trm_succ.mpr ⟨eM206, (16, [(0, cI x)], [cI (Int32.ofInt 1)], h), rfl, Nat.le_of_ble_eq_true rfl, Go.step (o_iload_n (i := 0) rfl rfl) (Go.step (o_if_f (t := 15) rfl rfl hd) (Go.step (o_iload_n (i := 0) rfl rfl) (Go.step (o_step rfl rfl) (Go.step (o_ic_f (t := 15) rfl rfl hd2) (Go.step (o_step rfl rfl) (Go.step (o_step rfl rfl) Go.rf)))))), rfl⟩, fun _ => ⟨by omega, by omega⟩⟩
theorem ir_trm {h : List cC} (hG : HG TT [] h) {fr : Nat → Int32} (r8 : h[188]? = some (.inr (.inl (0, 10240, fr)))) {p r : Int32} {P R : Nat} (hp : p.toInt = P) (hP : P < 10) (hr : r.toInt = R) (hR : R < 1024) (hr9 : Int32) : ∃ b : Int32, Trm 1 205 [cR 170, cI p, cI r, cI hr9] h (some (cI b)) h ∧ (b ≠ 0 → 0 < (fr (1024 * P + R)).toInt) := by
  obtain ⟨vs, m1, _⟩ := mo_at hG
  have m34 := mo_j hG m1 (j := 34) (k := 188) rfl
  have z0 : (0 : Int32).toInt = 0 := rfl
  have e1024 : ((Int16.ofInt 1024).toInt32).toInt = 1024 := rfl
  have a1 : ((Int16.ofInt 1024).toInt32 * p).toInt = 1024 * p.toInt := by rw [i32_mul (by rw [e1024]; omega) (by rw [e1024]; omega), e1024]
  have a2 : ((Int16.ofInt 1024).toInt32 * p + r).toInt = ((1024 * P + R : Nat) : Int) := by
    rw [i32_add (by omega) (by omega), a1]
    omega
  obtain ⟨i1, i2⟩ := in_B (n := 10240) a2 (by omega)
  have s11 : ∀ (ls : List (Nat × cV)) (st : List cV), cOne (calF (Trm 0)) eM205 none (11, ls, cI ((Int16.ofInt 1024).toInt32 * p + r) :: cR 188 :: st, h) = some (12, ls, cI (fr (1024 * P + R)) :: st, h) := fun ls st => by
    have := o_iald (call := calF (Trm 0)) (M := eM205) (sc := none) (pc := 11) (ls := ls) (st := st) rfl r8 i1
    rw [i2] at this
    exact this
  have pre : ∀ S : cS, Go (calF (Trm 0)) eM205 none (16, [(4, cI (fr (1024 * P + R))), (0, cR 170), (1, cI p), (2, cI r), (3, cI hr9)], [cI (fr (1024 * P + R))], h) S → Go (calF (Trm 0)) eM205 none (0, [(0, cR 170), (1, cI p), (2, cI r), (3, cI hr9)], [], h) S := fun S hs => Go.step (o_aload_n (i := 0) rfl rfl) (Go.step (o_get rfl rfl rfl m1 m34) (Go.step (o_step rfl rfl) (Go.step (o_iload_n (i := 1) rfl rfl) (Go.step (o_step rfl rfl) (Go.step (o_iload_n (i := 2) rfl rfl) (Go.step (o_step rfl rfl) (Go.step (s11 _ _) (Go.step (o_ist rfl rfl) (Go.step (o_iload rfl rfl) hs)))))))))
  by_cases c1 : (fr (1024 * P + R)).toInt ≤ 0
  · have hd : cDec .le (fr (1024 * P + R)) 0 = true := decide_eq_true (Int32.le_iff_toInt_le.mpr (by omega))
    exact ⟨Int32.ofInt 0, Trm_succ.mpr ⟨eM205, (30, [(4, cI (fr (1024 * P + R))), (0, cR 170), (1, cI p), (2, cI r), (3, cI hr9)], [cI (Int32.ofInt 0)], h), rfl, Nat.le_of_ble_eq_true rfl, pre _ (Go.step (o_if_t (t := 29) rfl rfl hd) (Go.step (o_step rfl rfl) Go.rf)), rfl⟩, fun z => absurd rfl z⟩
  · have hd : cDec .le (fr (1024 * P + R)) 0 = false := decide_eq_false (fun z => c1 (by have := Int32.le_iff_toInt_le.mp z; omega))
    by_cases c2 : hr9.toInt < (fr (1024 * P + R)).toInt
    · have hd2 : cDec .gt (fr (1024 * P + R)) hr9 = true := decide_eq_true (Int32.lt_iff_toInt_lt.mpr c2)
      exact ⟨Int32.ofInt 0, Trm_succ.mpr ⟨eM205, (30, [(4, cI (fr (1024 * P + R))), (0, cR 170), (1, cI p), (2, cI r), (3, cI hr9)], [cI (Int32.ofInt 0)], h), rfl, Nat.le_of_ble_eq_true rfl, pre _ (Go.step (o_if_f (t := 29) rfl rfl hd) (Go.step (o_iload rfl rfl) (Go.step (o_iload_n (i := 3) rfl rfl) (Go.step (o_ic_t (t := 29) rfl rfl hd2) (Go.step (o_step rfl rfl) Go.rf))))), rfl⟩, fun z => absurd rfl z⟩
    · have hd2 : cDec .gt (fr (1024 * P + R)) hr9 = false := decide_eq_false (fun z => c2 (Int32.lt_iff_toInt_lt.mp z))
      exact ⟨Int32.ofInt 1, Trm_succ.mpr ⟨eM205, (30, [(4, cI (fr (1024 * P + R))), (0, cR 170), (1, cI p), (2, cI r), (3, cI hr9)], [cI (Int32.ofInt 1)], h), rfl, Nat.le_of_ble_eq_true rfl, pre _ (Go.step (o_if_f (t := 29) rfl rfl hd) (Go.step (o_iload rfl rfl) (Go.step (o_iload_n (i := 3) rfl rfl) (Go.step (o_ic_f (t := 29) rfl rfl hd2) (Go.step (o_step rfl rfl) (Go.step (o_step rfl rfl) Go.rf)))))), rfl⟩, fun _ => by omega⟩
abbrev waW : aW := (201, 1000) :: gtW
abbrev waL (lw p r k : Int32) : List (Nat × cV) := [(0, cR 170), (1, cI lw), (2, cI p), (3, cI r), (4, cI k)]
theorem wa_ok {h : List cC} (hG : HG TT [] h) (hJ : J9 h) (hn : NSh h) (lw p r k : Int32) : ∃ (b : Int32) (h2 : List cC), Trm 10 254 [cR 170, cI lw, cI p, cI r, cI k] h (some (cI b)) h2 ∧ HG TT [] h2 ∧ Fr PT9 waW h h2 ∧ J9 h2 := by
  obtain ⟨vs, m1, _⟩ := mo_at hG
  have z0 : (0 : Int32).toInt = 0 := rfl
  obtain ⟨b1, t1, q1⟩ := il_trm hG lw
  obtain ⟨b2, t2, q2⟩ := ip_trm (h := h) p
  obtain ⟨b3, t3, q3⟩ := is_trm (h := h) r
  have s2 : cOne (calF (Trm 9)) eM254 none (2, waL lw p r k, [cI lw, cR 170], h) = some (5, waL lw p r k, [cI b1], h) := gh_inv (d := 9) (mi := 198) (N := eM198) (pc := 2) (ls := waL lw p r k) (st := [cI lw, cR 170]) (r := some (cI b1)) rfl rfl rfl rfl rfl (by show recC h 12 [cR 170, cI lw] = true; unfold recC; dsimp only; rw [m1]; rfl) (Trm_le (by decide) t1)
  have s9 : cOne (calF (Trm 9)) eM254 none (9, waL lw p r k, [cI p], h) = some (12, waL lw p r k, [cI b2], h) := gh_st (d := 9) (mi := 202) (N := eM202) (pc := 9) (ls := waL lw p r k) (st := [cI p]) (r := some (cI b2)) rfl rfl rfl rfl rfl (Trm_le (by decide) t2)
  have s16 : cOne (calF (Trm 9)) eM254 none (16, waL lw p r k, [cI r], h) = some (19, waL lw p r k, [cI b3], h) := gh_st (d := 9) (mi := 206) (N := eM206) (pc := 16) (ls := waL lw p r k) (st := [cI r]) (r := some (cI b3)) rfl rfl rfl rfl rfl (Trm_le (by decide) t3)
  have no : Go (calF (Trm 9)) eM254 none (27, waL lw p r k, [], h) (28, waL lw p r k, [cI (Int32.ofInt (-1))], h) := Go.step (o_step rfl rfl) Go.rf
  have fin : Go (calF (Trm 9)) eM254 none (0, waL lw p r k, [], h) (27, waL lw p r k, [], h) → ∃ (b : Int32) (h2 : List cC), Trm 10 254 [cR 170, cI lw, cI p, cI r, cI k] h (some (cI b)) h2 ∧ HG TT [] h2 ∧ Fr PT9 waW h h2 ∧ J9 h2 := fun g => ⟨_, h, Trm_succ.mpr ⟨eM254, _, rfl, Nat.le_of_ble_eq_true rfl, g.trans no, rfl⟩, hG, Fr.rf, hJ⟩
  have p5 : ∀ S : cS, Go (calF (Trm 9)) eM254 none (5, waL lw p r k, [cI b1], h) S → Go (calF (Trm 9)) eM254 none (0, waL lw p r k, [], h) S := fun S hs => Go.step (o_aload_n (i := 0) rfl rfl) (Go.step (o_iload_n (i := 1) rfl rfl) (Go.step s2 hs))
  have p12 : ∀ S : cS, Go (calF (Trm 9)) eM254 none (12, waL lw p r k, [cI b2], h) S → Go (calF (Trm 9)) eM254 none (8, waL lw p r k, [], h) S := fun S hs => Go.step (o_iload_n (i := 2) rfl rfl) (Go.step s9 hs)
  have p19 : ∀ S : cS, Go (calF (Trm 9)) eM254 none (19, waL lw p r k, [cI b3], h) S → Go (calF (Trm 9)) eM254 none (15, waL lw p r k, [], h) S := fun S hs => Go.step (o_iload_n (i := 3) rfl rfl) (Go.step s16 hs)
  by_cases c1 : b1 = 0
  · exact fin (p5 _ (Go.step (o_if_t (t := 27) rfl rfl (decide_eq_true c1)) Go.rf))
  have p8 : ∀ S : cS, Go (calF (Trm 9)) eM254 none (8, waL lw p r k, [], h) S → Go (calF (Trm 9)) eM254 none (0, waL lw p r k, [], h) S := fun S hs => p5 _ (Go.step (o_if_f (t := 27) rfl rfl (decide_eq_false c1)) hs)
  by_cases c2 : b2 = 0
  · exact fin (p8 _ (p12 _ (Go.step (o_if_t (t := 27) rfl rfl (decide_eq_true c2)) Go.rf)))
  have p15 : ∀ S : cS, Go (calF (Trm 9)) eM254 none (15, waL lw p r k, [], h) S → Go (calF (Trm 9)) eM254 none (0, waL lw p r k, [], h) S := fun S hs => p8 _ (p12 _ (Go.step (o_if_f (t := 27) rfl rfl (decide_eq_false c2)) hs))
  by_cases c3 : b3 = 0
  · exact fin (p15 _ (p19 _ (Go.step (o_if_t (t := 27) rfl rfl (decide_eq_true c3)) Go.rf)))
  have p24 : ∀ S : cS, Go (calF (Trm 9)) eM254 none (24, waL lw p r k, [cI k], h) S → Go (calF (Trm 9)) eM254 none (0, waL lw p r k, [], h) S := fun S hs => p15 _ (p19 _ (Go.step (o_if_f (t := 27) rfl rfl (decide_eq_false c3)) (Go.step (o_iload rfl rfl) hs)))
  by_cases c4 : k.toInt < 0
  · exact fin (p24 _ (Go.step (o_if_f (t := 29) rfl rfl (decide_eq_false (fun z => by have := Int32.le_iff_toInt_le.mp z; omega))) Go.rf))
  have p29 : ∀ S : cS, Go (calF (Trm 9)) eM254 none (29, waL lw p r k, [], h) S → Go (calF (Trm 9)) eM254 none (0, waL lw p r k, [], h) S := fun S hs => p24 _ (Go.step (o_if_t (t := 29) rfl rfl (decide_eq_true (Int32.le_iff_toInt_le.mpr (by omega)))) hs)
  obtain ⟨f, r3, _⟩ := HG_sa hG
  obtain ⟨h1, fw, fm, fn, mn, FO, g1, g2, g3, g4, g5⟩ := gt_ok hG hJ r3 (hn.1 f r3) (q1 c1)
  have s31 : cOne (calF (Trm 9)) eM254 none (31, waL lw p r k, [cI lw, cR 170], h) = some (34, waL lw p r k, [], h1) := gh_inv (d := 9) (mi := 183) (N := eM183) (pc := 31) (ls := waL lw p r k) (st := [cI lw, cR 170]) (r := none) rfl rfl rfl rfl rfl (by show recC h 12 [cR 170, cI lw] = true; unfold recC; dsimp only; rw [m1]; rfl) g1
  obtain ⟨us, n1, _⟩ := mo_at g2
  obtain ⟨gT, ft, fr, k6, k8, kR⟩ := g5
  obtain ⟨v1, v2⟩ := q2 c2
  obtain ⟨v3, v4⟩ := q3 c3
  have hp : p.toInt = (p.toInt.toNat : Nat) := by omega
  have hr : r.toInt = (r.toInt.toNat : Nat) := by omega
  obtain ⟨b4, t4, q4⟩ := ir_trm g2 k8 hp (by omega) hr (by omega) (Int8.ofInt 99).toInt32
  have s39 : cOne (calF (Trm 9)) eM254 none (39, waL lw p r k, [cI (Int8.ofInt 99).toInt32, cI r, cI p, cR 170], h1) = some (42, waL lw p r k, [cI b4], h1) := gh_inv (d := 9) (mi := 205) (N := eM205) (pc := 39) (ls := waL lw p r k) (st := [cI (Int8.ofInt 99).toInt32, cI r, cI p, cR 170]) (r := some (cI b4)) rfl rfl rfl rfl rfl (by show recC h1 12 [cR 170, cI p, cI r, cI (Int8.ofInt 99).toInt32] = true; unfold recC; dsimp only; rw [n1]; rfl) (Trm_le (by decide) t4)
  have p42 : ∀ S : cS, Go (calF (Trm 9)) eM254 none (42, waL lw p r k, [cI b4], h1) S → Go (calF (Trm 9)) eM254 none (0, waL lw p r k, [], h) S := fun S hs => p29 _ (Go.step (o_aload_n (i := 0) rfl rfl) (Go.step (o_iload_n (i := 1) rfl rfl) (Go.step s31 (Go.step (o_aload_n (i := 0) rfl rfl) (Go.step (o_iload_n (i := 2) rfl rfl) (Go.step (o_iload_n (i := 3) rfl rfl) (Go.step (o_step rfl rfl) (Go.step s39 hs))))))))
  have F1 : Fr PT9 waW h h1 := Fr.tr (W2 := gtW) rfl Fr.rf g3
  have no2 : Go (calF (Trm 9)) eM254 none (54, waL lw p r k, [], h1) (56, waL lw p r k, [cI (Int8.ofInt (-2)).toInt32], h1) := Go.step (o_step rfl rfl) Go.rf
  by_cases c5 : b4 = 0
  · exact ⟨_, h1, Trm_succ.mpr ⟨eM254, _, rfl, Nat.le_of_ble_eq_true rfl, (p42 _ (Go.step (o_if_t (t := 54) rfl rfl (decide_eq_true c5)) Go.rf)).trans no2, rfl⟩, g2, F1, g4⟩
  have er : r = Int32.ofNat r.toInt.toNat := i32_nat hr
  have s48 : cOne (calF (Trm 9)) eM254 none (48, waL lw p r k, [cI r, cI k], h1) = some (51, waL lw p r k, [cI (Int32.ofNat (bN r.toInt.toNat)), cI k], h1) := gh_st (d := 9) (mi := 158) (N := eM158) (pc := 48) (ls := waL lw p r k) (st := [cI r, cI k]) (r := some (cI (Int32.ofNat (bN r.toInt.toNat)))) rfl rfl rfl rfl rfl (by
    show Trm 9 158 [cI r] h1 _ h1
    have := bt_trm (h := h1) (x := r.toInt.toNat) (by omega)
    rw [← er] at this
    exact Trm_le (by decide) this)
  have p51 : ∀ S : cS, Go (calF (Trm 9)) eM254 none (51, waL lw p r k, [cI (Int32.ofNat (bN r.toInt.toNat)), cI k], h1) S → Go (calF (Trm 9)) eM254 none (0, waL lw p r k, [], h) S := fun S hs => p42 _ (Go.step (o_if_f (t := 54) rfl rfl (decide_eq_false c5)) (Go.step (o_iload rfl rfl) (Go.step (o_iload_n (i := 3) rfl rfl) (Go.step s48 hs))))
  obtain ⟨kn, kw⟩ := kR p.toInt.toNat r.toInt.toNat (by omega) (by omega) (q4 c5)
  have hN := bN_nine (x := r.toInt.toNat) (k := p.toInt.toNat) (by omega) (by omega) kn
  have en := nat_i (n := bN r.toInt.toNat) (by omega)
  by_cases c6 : k.toInt < (bN r.toInt.toNat : Int)
  · obtain ⟨wt, r9, _⟩ := HG_row g2 (k := 201) (kd := 0) (n := 10) (d := (-1, 30)) rfl
    obtain ⟨h2, wt2, f1, ⟨f2, f3, _, _, _, f9⟩, f4⟩ := fi_ok (p := p) (r := r) ⟨hp, by omega, hr, by omega, hN⟩ ⟨g2, g4, gT, k6, k8, r9⟩ (by omega) kw
    have s60 : cOne (calF (Trm 9)) eM254 none (60, waL lw p r k, [cI r, cI p, cR 170], h1) = some (63, waL lw p r k, [], h2) := gh_inv (d := 9) (mi := 179) (N := eM179) (pc := 60) (ls := waL lw p r k) (st := [cI r, cI p, cR 170]) (r := none) rfl rfl rfl rfl rfl (by show recC h1 12 [cR 170, cI p, cI r] = true; unfold recC; dsimp only; rw [n1]; rfl) (Trm_le (by decide) f1)
    obtain ⟨ws, o1, _⟩ := mo_at f2
    have o47 := mo_j f2 o1 (j := 47) (k := 201) rfl
    obtain ⟨i1, i2⟩ := in_B (x := k) (n := 10) (k := k.toInt.toNat) (by omega) (by omega)
    have s69 : ∀ (ls : List (Nat × cV)) (st : List cV), cOne (calF (Trm 9)) eM254 none (69, ls, cI k :: cR 201 :: st, h2) = some (70, ls, cI (wt2 k.toInt.toNat) :: st, h2) := fun ls st => by
      have := o_iald (call := calF (Trm 9)) (M := eM254) (sc := none) (pc := 69) (ls := ls) (st := st) rfl f9 i1
      rw [i2] at this
      exact this
    have hd : cDec .lt k (Int32.ofNat (bN r.toInt.toNat)) = true := decide_eq_true (Int32.lt_iff_toInt_lt.mpr (by omega))
    exact ⟨_, h2, Trm_succ.mpr ⟨eM254, (70, waL lw p r k, [cI (wt2 k.toInt.toNat)], h2), rfl, Nat.le_of_ble_eq_true rfl, p51 _ (Go.step (o_ic_t (t := 57) rfl rfl hd) (Go.step (o_aload_n (i := 0) rfl rfl) (Go.step (o_iload_n (i := 2) rfl rfl) (Go.step (o_iload_n (i := 3) rfl rfl) (Go.step s60 (Go.step (o_aload_n (i := 0) rfl rfl) (Go.step (o_get rfl rfl rfl o1 o47) (Go.step (o_iload rfl rfl) (Go.step (s69 _ _) Go.rf))))))))), rfl⟩, f2, Fr.tr (W2 := fiW) rfl F1 f4, f3⟩
  · have hd : cDec .lt k (Int32.ofNat (bN r.toInt.toNat)) = false := decide_eq_false (fun z => by have := Int32.lt_iff_toInt_lt.mp z; omega)
    exact ⟨_, h1, Trm_succ.mpr ⟨eM254, _, rfl, Nat.le_of_ble_eq_true rfl, (p51 _ (Go.step (o_ic_f (t := 57) rfl rfl hd) Go.rf)).trans no2, rfl⟩, g2, F1, g4⟩
theorem ow_way : owM 254 4 := fun h hi as hl => by
  match as, hl with
  | [a, b, c, d], _ =>
    obtain ⟨r, h2, t1, t2, t3, t4⟩ := wa_ok hi.1 hi.2.1.2.1 hi.2.2 a b c d
    exact ⟨r, h2, Trm_le (by decide) t1, t2, INV_keep hi.2.1 t2 t4 t3 rfl, NSh_sm hi.1 (SM_of t3 rfl rfl) hi.2.2⟩
