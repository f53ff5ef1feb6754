/-! ENTRY: both calls (p22) -/
def eT (a c d : Int32) : Prop := (0 ≤ a.toInt ∧ a.toInt ≤ 9) ∧ (0 ≤ c.toInt ∧ c.toInt ≤ 9) ∧ a ≠ c ∧ (1 ≤ d.toInt ∧ d.toInt ≤ 99)
def enB (p : Prop) (b : Int32) : Prop := (b = Int32.ofInt 1 ∧ p) ∨ (b = Int32.ofInt 0 ∧ ¬ p)
theorem enB_nz {p : Prop} {b : Int32} (h : enB p b) : b ≠ 0 ↔ p := by
  rcases h with ⟨h1, h2⟩ | ⟨h1, h2⟩
  · subst h1
    exact ⟨fun _ => h2, fun _ => by decide⟩
  · subst h1
    exact ⟨fun z => absurd rfl z, fun z => absurd z h2⟩
theorem ep_m {h : List cC} (x : Int32) : ∃ b : Int32, Trm 1 202 [cI x] h (some (cI b)) h ∧ enB (0 ≤ x.toInt ∧ x.toInt ≤ 9) b := by
  have z0 : (0 : Int32).toInt = 0 := rfl
  have z10 : ((Int8.ofInt 10).toInt32).toInt = 10 := rfl
  by_cases c1 : x.toInt < 0
  · have hd : cDec .lt x 0 = true := decide_eq_true (Int32.lt_iff_toInt_lt.mpr (by omega))
    exact ⟨Int32.ofInt 0, Trm_succ.mpr ⟨eM202, (15, [(0, cI x)], [cI (Int32.ofInt 0)], h), rfl, Nat.le_of_ble_eq_true rfl, Go.step (o_iload_n (i := 0) rfl rfl) (Go.step (o_if_t (t := 14) rfl rfl hd) (Go.step (o_step rfl rfl) Go.rf)), rfl⟩, Or.inr ⟨rfl, by omega⟩⟩
  · have hd : cDec .lt x 0 = false := decide_eq_false (fun z => c1 (by have := Int32.lt_iff_toInt_lt.mp z; omega))
    by_cases c2 : 10 ≤ x.toInt
    · have hd2 : cDec .ge x (Int8.ofInt 10).toInt32 = true := decide_eq_true (Int32.le_iff_toInt_le.mpr (by omega))
      exact ⟨Int32.ofInt 0, Trm_succ.mpr ⟨eM202, (15, [(0, cI x)], [cI (Int32.ofInt 0)], h), rfl, Nat.le_of_ble_eq_true rfl, Go.step (o_iload_n (i := 0) rfl rfl) (Go.step (o_if_f (t := 14) rfl rfl hd) (Go.step (o_iload_n (i := 0) rfl rfl) (Go.step (o_step rfl rfl) (Go.step (o_ic_t (t := 14) rfl rfl hd2) (Go.step (o_step rfl rfl) Go.rf))))), rfl⟩, Or.inr ⟨rfl, by omega⟩⟩
    · have hd2 : cDec .ge x (Int8.ofInt 10).toInt32 = false := decide_eq_false (fun z => c2 (by have := Int32.le_iff_toInt_le.mp z; omega))
      exact ⟨Int32.ofInt 1, Trm_succ.mpr ⟨eM202, (15, [(0, cI x)], [cI (Int32.ofInt 1)], h), rfl, Nat.le_of_ble_eq_true rfl, Go.step (o_iload_n (i := 0) rfl rfl) (Go.step (o_if_f (t := 14) rfl rfl hd) (Go.step (o_iload_n (i := 0) rfl rfl) (Go.step (o_step rfl rfl) (Go.step (o_ic_f (t := 14) rfl rfl hd2) (Go.step (o_step rfl rfl) (Go.step (o_step rfl rfl) Go.rf)))))), rfl⟩, Or.inl ⟨rfl, by omega, by omega⟩⟩
theorem ep_x {h : List cC} (x : Int32) : ∃ b : Int32, Trm 1 117 [cI x] h (some (cI b)) h ∧ enB (0 ≤ x.toInt ∧ x.toInt ≤ 9) b := by
  have z0 : (0 : Int32).toInt = 0 := rfl
  have z10 : ((Int8.ofInt 10).toInt32).toInt = 10 := rfl
  by_cases c1 : x.toInt < 0
  · have hd : cDec .lt x 0 = true := decide_eq_true (Int32.lt_iff_toInt_lt.mpr (by omega))
    exact ⟨Int32.ofInt 0, Trm_succ.mpr ⟨eM117, (15, [(0, cI x)], [cI (Int32.ofInt 0)], h), rfl, Nat.le_of_ble_eq_true rfl, Go.step (o_iload_n (i := 0) rfl rfl) (Go.step (o_if_t (t := 14) rfl rfl hd) (Go.step (o_step rfl rfl) Go.rf)), rfl⟩, Or.inr ⟨rfl, by omega⟩⟩
  · have hd : cDec .lt x 0 = false := decide_eq_false (fun z => c1 (by have := Int32.lt_iff_toInt_lt.mp z; omega))
    by_cases c2 : 10 ≤ x.toInt
    · have hd2 : cDec .ge x (Int8.ofInt 10).toInt32 = true := decide_eq_true (Int32.le_iff_toInt_le.mpr (by omega))
      exact ⟨Int32.ofInt 0, Trm_succ.mpr ⟨eM117, (15, [(0, cI x)], [cI (Int32.ofInt 0)], h), rfl, Nat.le_of_ble_eq_true rfl, Go.step (o_iload_n (i := 0) rfl rfl) (Go.step (o_if_f (t := 14) rfl rfl hd) (Go.step (o_iload_n (i := 0) rfl rfl) (Go.step (o_step rfl rfl) (Go.step (o_ic_t (t := 14) rfl rfl hd2) (Go.step (o_step rfl rfl) Go.rf))))), rfl⟩, Or.inr ⟨rfl, by omega⟩⟩
    · have hd2 : cDec .ge x (Int8.ofInt 10).toInt32 = false := decide_eq_false (fun z => c2 (by have := Int32.le_iff_toInt_le.mp z; omega))
      exact ⟨Int32.ofInt 1, Trm_succ.mpr ⟨eM117, (15, [(0, cI x)], [cI (Int32.ofInt 1)], h), rfl, Nat.le_of_ble_eq_true rfl, Go.step (o_iload_n (i := 0) rfl rfl) (Go.step (o_if_f (t := 14) rfl rfl hd) (Go.step (o_iload_n (i := 0) rfl rfl) (Go.step (o_step rfl rfl) (Go.step (o_ic_f (t := 14) rfl rfl hd2) (Go.step (o_step rfl rfl) (Go.step (o_step rfl rfl) Go.rf)))))), rfl⟩, Or.inl ⟨rfl, by omega, by omega⟩⟩
theorem eh_x {h : List cC} (x : Int32) : ∃ b : Int32, Trm 1 120 [cI x] h (some (cI b)) h ∧ enB (1 ≤ x.toInt ∧ x.toInt ≤ 99) b := by
  have z1 : (Int32.ofInt 1).toInt = 1 := rfl
  have z10 : ((Int8.ofInt 100).toInt32).toInt = 100 := rfl
  by_cases c1 : x.toInt < 1
  · have hd : cDec .lt x (Int32.ofInt 1) = true := decide_eq_true (Int32.lt_iff_toInt_lt.mpr (by omega))
    exact ⟨Int32.ofInt 0, Trm_succ.mpr ⟨eM120, (16, [(0, cI x)], [cI (Int32.ofInt 0)], h), rfl, Nat.le_of_ble_eq_true rfl, Go.step (o_iload_n (i := 0) rfl rfl) (Go.step (o_step rfl rfl) (Go.step (o_ic_t (t := 15) rfl rfl hd) (Go.step (o_step rfl rfl) Go.rf))), rfl⟩, Or.inr ⟨rfl, by omega⟩⟩
  · have hd : cDec .lt x (Int32.ofInt 1) = false := decide_eq_false (fun z => c1 (by have := Int32.lt_iff_toInt_lt.mp z; omega))
    by_cases c2 : 100 ≤ x.toInt
    · have hd2 : cDec .ge x (Int8.ofInt 100).toInt32 = true := decide_eq_true (Int32.le_iff_toInt_le.mpr (by omega))
      exact ⟨Int32.ofInt 0, Trm_succ.mpr ⟨eM120, (16, [(0, cI x)], [cI (Int32.ofInt 0)], h), rfl, Nat.le_of_ble_eq_true rfl, Go.step (o_iload_n (i := 0) rfl rfl) (Go.step (o_step rfl rfl) (Go.step (o_ic_f (t := 15) rfl rfl hd) (Go.step (o_iload_n (i := 0) rfl rfl) (Go.step (o_step rfl rfl) (Go.step (o_ic_t (t := 15) rfl rfl hd2) (Go.step (o_step rfl rfl) Go.rf)))))), rfl⟩, Or.inr ⟨rfl, by omega⟩⟩
    · have hd2 : cDec .ge x (Int8.ofInt 100).toInt32 = false := decide_eq_false (fun z => c2 (by have := Int32.le_iff_toInt_le.mp z; omega))
      exact ⟨Int32.ofInt 1, Trm_succ.mpr ⟨eM120, (16, [(0, cI x)], [cI (Int32.ofInt 1)], h), rfl, Nat.le_of_ble_eq_true rfl, Go.step (o_iload_n (i := 0) rfl rfl) (Go.step (o_step rfl rfl) (Go.step (o_ic_f (t := 15) rfl rfl hd) (Go.step (o_iload_n (i := 0) rfl rfl) (Go.step (o_step rfl rfl) (Go.step (o_ic_f (t := 15) rfl rfl hd2) (Go.step (o_step rfl rfl) (Go.step (o_step rfl rfl) Go.rf))))))), rfl⟩, Or.inl ⟨rfl, by omega, by omega⟩⟩
theorem ei_99 (d : Int32) : enB (1 ≤ d.toInt ∧ d.toInt ≤ 99) (inx d.toInt64 (Int64.ofInt 1) (Int64.ofInt 99)) := by
  have e1 : d.toInt64.toInt = d.toInt := Int32.toInt_toInt64 d
  have o1 : (Int64.ofInt 1).toInt = 1 := by decide
  have o9 : (Int64.ofInt 99).toInt = 99 := by decide
  have l1 := lg_cmp_int d.toInt64 (Int64.ofInt 1)
  have l9 := lg_cmp_int d.toInt64 (Int64.ofInt 99)
  rw [e1, o1] at l1
  rw [e1, o9] at l9
  have z0 : (0 : Int32).toInt = 0 := rfl
  unfold inx
  by_cases c1 : d.toInt < 1
  · have hd : cDec .lt (lg_cmp d.toInt64 (Int64.ofInt 1)) 0 = true := decide_eq_true (Int32.lt_iff_toInt_lt.mpr (by rw [l1, if_neg (by omega), if_neg (by omega)]; decide))
    rw [if_pos hd]
    exact Or.inr ⟨rfl, by omega⟩
  · have hd : ¬ cDec .lt (lg_cmp d.toInt64 (Int64.ofInt 1)) 0 = true := fun z => by
      have := Int32.lt_iff_toInt_lt.mp (of_decide_eq_true z)
      rw [l1, z0] at this
      by_cases q : 1 < d.toInt
      · rw [if_pos q] at this
        omega
      · rw [if_neg q, if_pos (by omega)] at this
        omega
    rw [if_neg hd]
    by_cases c2 : 99 < d.toInt
    · have hd2 : cDec .gt (lg_cmp d.toInt64 (Int64.ofInt 99)) 0 = true := decide_eq_true (Int32.lt_iff_toInt_lt.mpr (by rw [l9, if_pos c2]; decide))
      rw [if_pos hd2]
      exact Or.inr ⟨rfl, by omega⟩
    · have hd2 : ¬ cDec .gt (lg_cmp d.toInt64 (Int64.ofInt 99)) 0 = true := fun z => by
        have := Int32.lt_iff_toInt_lt.mp (of_decide_eq_true z)
        rw [l9, z0, if_neg c2] at this
        by_cases q : d.toInt = 99
        · rw [if_pos q] at this
          omega
        · rw [if_neg q] at this
          omega
      rw [if_neg hd2]
      exact Or.inl ⟨rfl, by omega, by omega⟩
abbrev e3L (a c d : Int32) : List (Nat × cV) := [(0, cI a), (1, cI c), (2, cI d)]
theorem ec_m {h : List cC} (a c d : Int32) : ∃ b : Int32, Trm 2 163 [cI a, cI c, cI d] h (some (cI b)) h ∧ enB (eT a c d) b := by
  obtain ⟨b1, t1, q1⟩ := ep_m (h := h) a
  obtain ⟨b2, t2, q2⟩ := ep_m (h := h) c
  have q3 := ei_99 d
  have s1 : cOne (calF (Trm 1)) eM163 none (1, e3L a c d, [cI a], h) = some (4, e3L a c d, [cI b1], h) := gh_st (d := 1) (mi := 202) (N := eM202) (pc := 1) (ls := e3L a c d) (st := [cI a]) (r := some (cI b1)) rfl rfl rfl rfl rfl t1
  have s8 : cOne (calF (Trm 1)) eM163 none (8, e3L a c d, [cI c], h) = some (11, e3L a c d, [cI b2], h) := gh_st (d := 1) (mi := 202) (N := eM202) (pc := 8) (ls := e3L a c d) (st := [cI c]) (r := some (cI b2)) rfl rfl rfl rfl rfl t2
  have no : Go (calF (Trm 1)) eM163 none (35, e3L a c d, [], h) (36, e3L a c d, [cI (Int32.ofInt 0)], h) := Go.step (o_step rfl rfl) Go.rf
  have fin : ¬ eT a c d → Go (calF (Trm 1)) eM163 none (0, e3L a c d, [], h) (35, e3L a c d, [], h) → ∃ b : Int32, Trm 2 163 [cI a, cI c, cI d] h (some (cI b)) h ∧ enB (eT a c d) b := fun hn g => ⟨Int32.ofInt 0, Trm_succ.mpr ⟨eM163, _, rfl, Nat.le_of_ble_eq_true rfl, g.trans no, rfl⟩, Or.inr ⟨rfl, hn⟩⟩
  have p4 : ∀ S : cS, Go (calF (Trm 1)) eM163 none (4, e3L a c d, [cI b1], h) S → Go (calF (Trm 1)) eM163 none (0, e3L a c d, [], h) S := fun S hs => Go.step (o_iload_n (i := 0) rfl rfl) (Go.step s1 hs)
  have p11 : ∀ S : cS, Go (calF (Trm 1)) eM163 none (11, e3L a c d, [cI b2], h) S → Go (calF (Trm 1)) eM163 none (7, e3L a c d, [], h) S := fun S hs => Go.step (o_iload_n (i := 1) rfl rfl) (Go.step s8 hs)
  by_cases c1 : b1 = 0
  · exact fin (fun z => (enB_nz q1).mpr z.1 c1) (p4 _ (Go.step (o_if_t (t := 35) rfl rfl (decide_eq_true c1)) Go.rf))
  by_cases c2 : b2 = 0
  · exact fin (fun z => (enB_nz q2).mpr z.2.1 c2) (p4 _ (Go.step (o_if_f (t := 35) rfl rfl (decide_eq_false c1)) (p11 _ (Go.step (o_if_t (t := 35) rfl rfl (decide_eq_true c2)) Go.rf))))
  have p16 : ∀ S : cS, Go (calF (Trm 1)) eM163 none (16, e3L a c d, [cI c, cI a], h) S → Go (calF (Trm 1)) eM163 none (0, e3L a c d, [], h) S := fun S hs => p4 _ (Go.step (o_if_f (t := 35) rfl rfl (decide_eq_false c1)) (p11 _ (Go.step (o_if_f (t := 35) rfl rfl (decide_eq_false c2)) (Go.step (o_iload_n (i := 0) rfl rfl) (Go.step (o_iload_n (i := 1) rfl rfl) hs)))))
  by_cases c3 : a = c
  · exact fin (fun z => z.2.2.1 c3) (p16 _ (Go.step (o_ic_t (t := 35) rfl rfl (decide_eq_true c3)) Go.rf))
  have s22 : ∀ (ls : List (Nat × cV)) (st : List cV), cOne (calF (Trm 1)) eM163 none (22, ls, st, h) = some (25, ls, cJ (Int64.ofInt 99) :: st, h) := fun ls st => o_step rfl rfl
  have s21 : ∀ (ls : List (Nat × cV)) (st : List cV), cOne (calF (Trm 1)) eM163 none (21, ls, st, h) = some (22, ls, cJ (Int64.ofInt 1) :: st, h) := fun ls st => o_step rfl rfl
  have s25 : cOne (calF (Trm 1)) eM163 none (25, e3L a c d, [cJ (Int64.ofInt 99), cJ (Int64.ofInt 1), cJ d.toInt64], h) = some (28, e3L a c d, [cI (inx d.toInt64 (Int64.ofInt 1) (Int64.ofInt 99))], h) := gh_st (d := 1) (mi := 189) (N := eM189) (pc := 25) (ls := e3L a c d) (st := [cJ (Int64.ofInt 99), cJ (Int64.ofInt 1), cJ d.toInt64]) (r := some (cI (inx d.toInt64 (Int64.ofInt 1) (Int64.ofInt 99)))) rfl rfl rfl rfl rfl (in_x _ _ _)
  have p28 : ∀ S : cS, Go (calF (Trm 1)) eM163 none (28, e3L a c d, [cI (inx d.toInt64 (Int64.ofInt 1) (Int64.ofInt 99))], h) S → Go (calF (Trm 1)) eM163 none (0, e3L a c d, [], h) S := fun S hs => p16 _ (Go.step (o_ic_f (t := 35) rfl rfl (decide_eq_false c3)) (Go.step (o_iload_n (i := 2) rfl rfl) (Go.step (o_step rfl rfl) (Go.step (s21 _ _) (Go.step (s22 _ _) (Go.step s25 hs))))))
  by_cases c4 : inx d.toInt64 (Int64.ofInt 1) (Int64.ofInt 99) = 0
  · exact fin (fun z => (enB_nz q3).mpr z.2.2.2 c4) (p28 _ (Go.step (o_if_t (t := 35) rfl rfl (decide_eq_true c4)) Go.rf))
  exact ⟨Int32.ofInt 1, Trm_succ.mpr ⟨eM163, (36, e3L a c d, [cI (Int32.ofInt 1)], h), rfl, Nat.le_of_ble_eq_true rfl, p28 _ (Go.step (o_if_f (t := 35) rfl rfl (decide_eq_false c4)) (Go.step (o_step rfl rfl) (Go.step (o_step rfl rfl) Go.rf))), rfl⟩, Or.inl ⟨rfl, (enB_nz q1).mp c1, (enB_nz q2).mp c2, c3, (enB_nz q3).mp c4⟩⟩
theorem ec_x {h : List cC} (a c d : Int32) : ∃ b : Int32, Trm 2 121 [cI a, cI c, cI d] h (some (cI b)) h ∧ enB (eT a c d) b := by
  obtain ⟨b1, t1, q1⟩ := ep_x (h := h) a
  obtain ⟨b2, t2, q2⟩ := ep_x (h := h) c
  obtain ⟨b3, t3, q3⟩ := eh_x (h := h) d
  have s1 : cOne (calF (Trm 1)) eM121 none (1, e3L a c d, [cI a], h) = some (4, e3L a c d, [cI b1], h) := gh_st (d := 1) (mi := 117) (N := eM117) (pc := 1) (ls := e3L a c d) (st := [cI a]) (r := some (cI b1)) rfl rfl rfl rfl rfl t1
  have s8 : cOne (calF (Trm 1)) eM121 none (8, e3L a c d, [cI c], h) = some (11, e3L a c d, [cI b2], h) := gh_st (d := 1) (mi := 117) (N := eM117) (pc := 8) (ls := e3L a c d) (st := [cI c]) (r := some (cI b2)) rfl rfl rfl rfl rfl t2
  have s20 : cOne (calF (Trm 1)) eM121 none (20, e3L a c d, [cI d], h) = some (23, e3L a c d, [cI b3], h) := gh_st (d := 1) (mi := 120) (N := eM120) (pc := 20) (ls := e3L a c d) (st := [cI d]) (r := some (cI b3)) rfl rfl rfl rfl rfl t3
  have no : Go (calF (Trm 1)) eM121 none (30, e3L a c d, [], h) (31, e3L a c d, [cI (Int32.ofInt 0)], h) := Go.step (o_step rfl rfl) Go.rf
  have fin : ¬ eT a c d → Go (calF (Trm 1)) eM121 none (0, e3L a c d, [], h) (30, e3L a c d, [], h) → ∃ b : Int32, Trm 2 121 [cI a, cI c, cI d] h (some (cI b)) h ∧ enB (eT a c d) b := fun hn g => ⟨Int32.ofInt 0, Trm_succ.mpr ⟨eM121, _, rfl, Nat.le_of_ble_eq_true rfl, g.trans no, rfl⟩, Or.inr ⟨rfl, hn⟩⟩
  have p4 : ∀ S : cS, Go (calF (Trm 1)) eM121 none (4, e3L a c d, [cI b1], h) S → Go (calF (Trm 1)) eM121 none (0, e3L a c d, [], h) S := fun S hs => Go.step (o_iload_n (i := 0) rfl rfl) (Go.step s1 hs)
  have p11 : ∀ S : cS, Go (calF (Trm 1)) eM121 none (11, e3L a c d, [cI b2], h) S → Go (calF (Trm 1)) eM121 none (7, e3L a c d, [], h) S := fun S hs => Go.step (o_iload_n (i := 1) rfl rfl) (Go.step s8 hs)
  by_cases c1 : b1 = 0
  · exact fin (fun z => (enB_nz q1).mpr z.1 c1) (p4 _ (Go.step (o_if_t (t := 30) rfl rfl (decide_eq_true c1)) Go.rf))
  by_cases c2 : b2 = 0
  · exact fin (fun z => (enB_nz q2).mpr z.2.1 c2) (p4 _ (Go.step (o_if_f (t := 30) rfl rfl (decide_eq_false c1)) (p11 _ (Go.step (o_if_t (t := 30) rfl rfl (decide_eq_true c2)) Go.rf))))
  have p16 : ∀ S : cS, Go (calF (Trm 1)) eM121 none (16, e3L a c d, [cI c, cI a], h) S → Go (calF (Trm 1)) eM121 none (0, e3L a c d, [], h) S := fun S hs => p4 _ (Go.step (o_if_f (t := 30) rfl rfl (decide_eq_false c1)) (p11 _ (Go.step (o_if_f (t := 30) rfl rfl (decide_eq_false c2)) (Go.step (o_iload_n (i := 0) rfl rfl) (Go.step (o_iload_n (i := 1) rfl rfl) hs)))))
  by_cases c3 : a = c
  · exact fin (fun z => z.2.2.1 c3) (p16 _ (Go.step (o_ic_t (t := 30) rfl rfl (decide_eq_true c3)) Go.rf))
  have p23 : ∀ S : cS, Go (calF (Trm 1)) eM121 none (23, e3L a c d, [cI b3], h) S → Go (calF (Trm 1)) eM121 none (0, e3L a c d, [], h) S := fun S hs => p16 _ (Go.step (o_ic_f (t := 30) rfl rfl (decide_eq_false c3)) (Go.step (o_iload_n (i := 2) rfl rfl) (Go.step s20 hs)))
  by_cases c4 : b3 = 0
  · exact fin (fun z => (enB_nz q3).mpr z.2.2.2 c4) (p23 _ (Go.step (o_if_t (t := 30) rfl rfl (decide_eq_true c4)) Go.rf))
  exact ⟨Int32.ofInt 1, Trm_succ.mpr ⟨eM121, (31, e3L a c d, [cI (Int32.ofInt 1)], h), rfl, Nat.le_of_ble_eq_true rfl, p23 _ (Go.step (o_if_f (t := 30) rfl rfl (decide_eq_false c4)) (Go.step (o_step rfl rfl) (Go.step (o_step rfl rfl) Go.rf))), rfl⟩, Or.inl ⟨rfl, (enB_nz q1).mp c1, (enB_nz q2).mp c2, c3, (enB_nz q3).mp c4⟩⟩
