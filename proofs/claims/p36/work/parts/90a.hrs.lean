/-! THE WAY, 1: isOf, in, isDeaf, isProud, hears: what they answer -/
def ofF (s k : Int32) : Int32 := if ((s >>> (k &&& 31)) &&& Int32.ofInt 1) = Int32.ofInt 1 then Int32.ofInt 1 else Int32.ofInt 0
theorem of_trm {h : List cC} (s k : Int32) : Trm 1 201 [cI s, cI k] h (some (cI (ofF s k))) h := by
  unfold ofF
  have pre : ∀ S : cS, Go (calF (Trm 0)) eM201 none (6, [(0, cI s), (1, cI k)], [cI (Int32.ofInt 1), cI ((s >>> (k &&& 31)) &&& Int32.ofInt 1)], h) S → Go (calF (Trm 0)) eM201 none (0, [(0, cI s), (1, cI k)], [], h) S := fun S hs => Go.step (o_iload_n (i := 0) rfl rfl) (Go.step (o_iload_n (i := 1) rfl rfl) (Go.step (o_step rfl rfl) (Go.step (o_step rfl rfl) (Go.step (o_step rfl rfl) (Go.step (o_step rfl rfl) hs)))))
  by_cases e : ((s >>> (k &&& 31)) &&& Int32.ofInt 1) = Int32.ofInt 1
  · have hd : cDec .ne ((s >>> (k &&& 31)) &&& Int32.ofInt 1) (Int32.ofInt 1) = false := decide_eq_false (fun z => z e)
    rw [if_pos e]
    exact Trm_succ.mpr ⟨eM201, (14, [(0, cI s), (1, cI k)], [cI (Int32.ofInt 1)], h), rfl, Nat.le_of_ble_eq_true rfl, pre _ (Go.step (o_ic_f (t := 13) rfl rfl hd) (Go.step (o_step rfl rfl) (Go.step (o_step rfl rfl) Go.rf))), rfl⟩
  · have hd : cDec .ne ((s >>> (k &&& 31)) &&& Int32.ofInt 1) (Int32.ofInt 1) = true := decide_eq_true e
    rw [if_neg e]
    exact Trm_succ.mpr ⟨eM201, (14, [(0, cI s), (1, cI k)], [cI (Int32.ofInt 0)], h), rfl, Nat.le_of_ble_eq_true rfl, pre _ (Go.step (o_ic_t (t := 13) rfl rfl hd) (Go.step (o_step rfl rfl) Go.rf)), rfl⟩
theorem ofF_b : (List.range 1024).all (fun x => (List.range 10).all (fun k => ofF (Int32.ofNat x) (Int32.ofNat k) == (match bOf x k with
  | true => Int32.ofInt 1
  | false => Int32.ofInt 0))) = true := by decide +kernel
theorem ofF_of {x k : Nat} (hx : x < 1024) (hk : k < 10) : ofF (Int32.ofNat x) (Int32.ofNat k) = (match bOf x k with
  | true => Int32.ofInt 1
  | false => Int32.ofInt 0) := eq_of_beq (List.all_eq_true.mp (List.all_eq_true.mp ofF_b x (List.mem_range.mpr hx)) k (List.mem_range.mpr hk))
def inx (a b c : Int64) : Int32 := if cDec .lt (lg_cmp a b) 0 = true then Int32.ofInt 0 else if cDec .gt (lg_cmp a c) 0 = true then Int32.ofInt 0 else Int32.ofInt 1
theorem in_x {h : List cC} (a b c : Int64) : Trm 1 189 [cJ a, cJ b, cJ c] h (some (cI (inx a b c))) h := by
  unfold inx
  have p1 : ∀ S : cS, Go (calF (Trm 0)) eM189 none (3, [(0, cJ a), (2, cJ b), (4, cJ c)], [cI (lg_cmp a b)], h) S → Go (calF (Trm 0)) eM189 none (0, [(0, cJ a), (2, cJ b), (4, cJ c)], [], h) S := fun S hs => Go.step (o_step rfl rfl) (Go.step (o_step rfl rfl) (Go.step (o_step rfl rfl) hs))
  have p2 : ∀ S : cS, Go (calF (Trm 0)) eM189 none (10, [(0, cJ a), (2, cJ b), (4, cJ c)], [cI (lg_cmp a c)], h) S → Go (calF (Trm 0)) eM189 none (6, [(0, cJ a), (2, cJ b), (4, cJ c)], [], h) S := fun S hs => Go.step (o_step rfl rfl) (Go.step (o_step rfl rfl) (Go.step (o_step rfl rfl) hs))
  cases e1 : cDec .lt (lg_cmp a b) 0 with
  | true =>
    rw [if_pos rfl]
    exact Trm_succ.mpr ⟨eM189, (18, [(0, cJ a), (2, cJ b), (4, cJ c)], [cI (Int32.ofInt 0)], h), rfl, Nat.le_of_ble_eq_true rfl, p1 _ (Go.step (o_if_t (t := 17) rfl rfl e1) (Go.step (o_step rfl rfl) Go.rf)), rfl⟩
  | false =>
    rw [if_neg Bool.false_ne_true]
    cases e2 : cDec .gt (lg_cmp a c) 0 with
    | true =>
      rw [if_pos rfl]
      exact Trm_succ.mpr ⟨eM189, (18, [(0, cJ a), (2, cJ b), (4, cJ c)], [cI (Int32.ofInt 0)], h), rfl, Nat.le_of_ble_eq_true rfl, p1 _ (Go.step (o_if_f (t := 17) rfl rfl e1) (p2 _ (Go.step (o_if_t (t := 17) rfl rfl e2) (Go.step (o_step rfl rfl) Go.rf)))), rfl⟩
    | false =>
      rw [if_neg Bool.false_ne_true]
      exact Trm_succ.mpr ⟨eM189, (18, [(0, cJ a), (2, cJ b), (4, cJ c)], [cI (Int32.ofInt 1)], h), rfl, Nat.le_of_ble_eq_true rfl, p1 _ (Go.step (o_if_f (t := 17) rfl rfl e1) (p2 _ (Go.step (o_if_f (t := 17) rfl rfl e2) (Go.step (o_step rfl rfl) (Go.step (o_step rfl rfl) Go.rf))))), rfl⟩
def dfl (f : Nat → Int32) (p hr : Int32) : Nat → Nat → Int32
  | 0, _ => Int32.ofInt 0
  | n + 1, d => if f (20 + 3 * d) = p ∧ inx hr.toInt64 (f (20 + 3 * d + 1)).toInt64 (f (20 + 3 * d + 2)).toInt64 ≠ 0 then Int32.ofInt 1 else dfl f p hr n (d + 1)
def prl (f : Nat → Int32) (p o : Int32) : Nat → Nat → Int32
  | 0, _ => Int32.ofInt 0
  | n + 1, d => if f (56 + 2 * d) = p ∧ f (56 + 2 * d + 1) = o then Int32.ofInt 1 else prl f p o n (d + 1)
abbrev dLs (p q d : Int32) : List (Nat × cV) := [(3, cI d), (0, cR 170), (1, cI p), (2, cI q)]
theorem mo_sa {h : List cC} (hG : HG TT [] h) {vs : List cV} (m1 : h[170]? = some (.inl (12, vs))) : vs[26]? = some (cR 183) := by
  obtain ⟨us, a1, a2⟩ := mod_at hG (j := 26) (k := 183) rfl
  rw [m1] at a1
  cases a1
  exact a2
theorem df_loop {h : List cC} {vs : List cV} {f : Nat → Int32} (m1 : h[170]? = some (.inl (12, vs))) (m26 : vs[26]? = some (cR 183)) (r3 : h[183]? = some (.inr (.inl (0, 230, f)))) {N : Nat} (hN : (f 1).toInt = N) (hN12 : N ≤ 12) (p hr : Int32) : ∀ (n d : Nat) (i : Int32), d + n = N → i.toInt = d → ∃ (ls : List (Nat × cV)) (pc : Nat), Go (calF (Trm 1)) eM191 none (2, dLs p hr i, [], h) (pc, ls, [cI (dfl f p hr n d)], h) ∧ cEnd eM191 (pc, ls, [cI (dfl f p hr n d)], h) = some (some (cI (dfl f p hr n d)), h)
  | 0, d, i, hd, hi => by
    have hc : cDec .ge i (f 1) = true := decide_eq_true (Int32.le_iff_toInt_le.mpr (by omega))
    have s8 : ∀ (ls : List (Nat × cV)) (st : List cV), cOne (calF (Trm 1)) eM191 none (8, ls, cI (Int32.ofInt 1) :: cR 183 :: st, h) = some (9, ls, cI (f 1) :: st, h) := fun ls st => o_iald (i := Int32.ofInt 1) rfl r3 rfl
    exact ⟨dLs p hr i, 72, Go.step (o_iload_n (i := 3) rfl rfl) (Go.step (o_aload_n (i := 0) rfl rfl) (Go.step (o_get rfl rfl rfl m1 m26) (Go.step (o_step rfl rfl) (Go.step (s8 _ _) (Go.step (o_ic_t (t := 71) rfl rfl hc) (Go.step (o_step rfl rfl) Go.rf)))))), rfl⟩
  | n + 1, d, i, hd, hi => by
    have hc : cDec .ge i (f 1) = false := decide_eq_false (fun z => by have := Int32.le_iff_toInt_le.mp z; omega)
    have s8 : ∀ (ls : List (Nat × cV)) (st : List cV), cOne (calF (Trm 1)) eM191 none (8, ls, cI (Int32.ofInt 1) :: cR 183 :: st, h) = some (9, ls, cI (f 1) :: st, h) := fun ls st => o_iald (i := Int32.ofInt 1) rfl r3 rfl
    have e20 : ((Int8.ofInt 20).toInt32).toInt = 20 := rfl
    have e3 : (Int32.ofInt 3).toInt = 3 := rfl
    have e2 : (Int32.ofInt 2).toInt = 2 := rfl
    have a1 : (Int32.ofInt 3 * i).toInt = 3 * i.toInt := by rw [i32_mul (by rw [e3]; omega) (by rw [e3]; omega), e3]
    have a2 : ((Int8.ofInt 20).toInt32 + Int32.ofInt 3 * i).toInt = ((20 + 3 * d : Nat) : Int) := by
      rw [i32_add (by rw [e20]; omega) (by rw [e20]; omega), e20]
      omega
    have a3 : ((Int8.ofInt 20).toInt32 + Int32.ofInt 3 * i + Int32.ofInt 1).toInt = ((20 + 3 * d + 1 : Nat) : Int) := by
      rw [i32_add (by rw [one_i]; omega) (by rw [one_i]; omega), one_i]
      omega
    have a4 : ((Int8.ofInt 20).toInt32 + Int32.ofInt 3 * i + Int32.ofInt 2).toInt = ((20 + 3 * d + 2 : Nat) : Int) := by
      rw [i32_add (by rw [e2]; omega) (by rw [e2]; omega), e2]
      omega
    obtain ⟨i1, i2⟩ := in_B (n := 230) a2 (by omega)
    obtain ⟨j1, j2⟩ := in_B (n := 230) a3 (by omega)
    obtain ⟨k1, k2⟩ := in_B (n := 230) a4 (by omega)
    have s22 : ∀ (ls : List (Nat × cV)) (st : List cV), cOne (calF (Trm 1)) eM191 none (22, ls, cI ((Int8.ofInt 20).toInt32 + Int32.ofInt 3 * i) :: cR 183 :: st, h) = some (23, ls, cI (f (20 + 3 * d)) :: st, h) := fun ls st => by
      have := o_iald (call := calF (Trm 1)) (M := eM191) (sc := none) (pc := 22) (ls := ls) (st := st) rfl r3 i1
      rw [i2] at this
      exact this
    have s41 : ∀ (ls : List (Nat × cV)) (st : List cV), cOne (calF (Trm 1)) eM191 none (41, ls, cI ((Int8.ofInt 20).toInt32 + Int32.ofInt 3 * i + Int32.ofInt 1) :: cR 183 :: st, h) = some (42, ls, cI (f (20 + 3 * d + 1)) :: st, h) := fun ls st => by
      have := o_iald (call := calF (Trm 1)) (M := eM191) (sc := none) (pc := 41) (ls := ls) (st := st) rfl r3 j1
      rw [j2] at this
      exact this
    have s55 : ∀ (ls : List (Nat × cV)) (st : List cV), cOne (calF (Trm 1)) eM191 none (55, ls, cI ((Int8.ofInt 20).toInt32 + Int32.ofInt 3 * i + Int32.ofInt 2) :: cR 183 :: st, h) = some (56, ls, cI (f (20 + 3 * d + 2)) :: st, h) := fun ls st => by
      have := o_iald (call := calF (Trm 1)) (M := eM191) (sc := none) (pc := 55) (ls := ls) (st := st) rfl r3 k1
      rw [k2] at this
      exact this
    have pre : ∀ S : cS, Go (calF (Trm 1)) eM191 none (24, dLs p hr i, [cI p, cI (f (20 + 3 * d))], h) S → Go (calF (Trm 1)) eM191 none (2, dLs p hr i, [], h) S := fun S hs => Go.step (o_iload_n (i := 3) rfl rfl) (Go.step (o_aload_n (i := 0) rfl rfl) (Go.step (o_get rfl rfl rfl m1 m26) (Go.step (o_step rfl rfl) (Go.step (s8 _ _) (Go.step (o_ic_f (t := 71) rfl rfl hc) (Go.step (o_aload_n (i := 0) rfl rfl) (Go.step (o_get rfl rfl rfl m1 m26) (Go.step (o_step rfl rfl) (Go.step (o_step rfl rfl) (Go.step (o_iload_n (i := 3) rfl rfl) (Go.step (o_step rfl rfl) (Go.step (o_step rfl rfl) (Go.step (s22 _ _) (Go.step (o_iload_n (i := 1) rfl rfl) hs))))))))))))))
    have hi1 : (i + Int32.ofInt 1).toInt = ((d + 1 : Nat) : Int) := by
      rw [i32_add (by rw [one_i]; omega) (by rw [one_i]; omega), one_i]
      omega
    obtain ⟨ls, pc, z1, z2⟩ := df_loop m1 m26 r3 hN hN12 p hr n (d + 1) (i + Int32.ofInt 1) (by omega) hi1
    have s65 : cOne (calF (Trm 1)) eM191 none (65, dLs p hr i, [], h) = some (68, dLs p hr (i + Int32.ofInt 1), [], h) := o_step (ins := .iinc 3 1) (len := 3) rfl rfl
    have next : Go (calF (Trm 1)) eM191 none (65, dLs p hr i, [], h) (pc, ls, [cI (dfl f p hr n (d + 1))], h) := Go.step s65 (Go.step (o_step rfl rfl) z1)
    unfold dfl
    by_cases e1 : f (20 + 3 * d) = p
    · have hc2 : cDec .ne (f (20 + 3 * d)) p = false := decide_eq_false (fun z => z e1)
      have s57 : cOne (calF (Trm 1)) eM191 none (57, dLs p hr i, [cJ (f (20 + 3 * d + 2)).toInt64, cJ (f (20 + 3 * d + 1)).toInt64, cJ hr.toInt64], h) = some (60, dLs p hr i, [cI (inx hr.toInt64 (f (20 + 3 * d + 1)).toInt64 (f (20 + 3 * d + 2)).toInt64)], h) := gh_st (d := 1) (mi := 189) (N := eM189) (pc := 57) (ls := dLs p hr i) (st := [cJ (f (20 + 3 * d + 2)).toInt64, cJ (f (20 + 3 * d + 1)).toInt64, cJ hr.toInt64]) (r := some (cI (inx hr.toInt64 (f (20 + 3 * d + 1)).toInt64 (f (20 + 3 * d + 2)).toInt64))) rfl rfl rfl rfl rfl (in_x _ _ _)
      have mid : ∀ S : cS, Go (calF (Trm 1)) eM191 none (60, dLs p hr i, [cI (inx hr.toInt64 (f (20 + 3 * d + 1)).toInt64 (f (20 + 3 * d + 2)).toInt64)], h) S → Go (calF (Trm 1)) eM191 none (2, dLs p hr i, [], h) S := fun S hs => pre _ (Go.step (o_ic_f (t := 65) rfl rfl hc2) (Go.step (o_iload_n (i := 2) rfl rfl) (Go.step (o_step rfl rfl) (Go.step (o_aload_n (i := 0) rfl rfl) (Go.step (o_get rfl rfl rfl m1 m26) (Go.step (o_step rfl rfl) (Go.step (o_step rfl rfl) (Go.step (o_iload_n (i := 3) rfl rfl) (Go.step (o_step rfl rfl) (Go.step (o_step rfl rfl) (Go.step (o_step rfl rfl) (Go.step (o_step rfl rfl) (Go.step (s41 _ _) (Go.step (o_step rfl rfl) (Go.step (o_aload_n (i := 0) rfl rfl) (Go.step (o_get rfl rfl rfl m1 m26) (Go.step (o_step rfl rfl) (Go.step (o_step rfl rfl) (Go.step (o_iload_n (i := 3) rfl rfl) (Go.step (o_step rfl rfl) (Go.step (o_step rfl rfl) (Go.step (o_step rfl rfl) (Go.step (o_step rfl rfl) (Go.step (s55 _ _) (Go.step (o_step rfl rfl) (Go.step s57 hs))))))))))))))))))))))))))
      by_cases e2 : inx hr.toInt64 (f (20 + 3 * d + 1)).toInt64 (f (20 + 3 * d + 2)).toInt64 = 0
      · have hc3 : cDec .eq (inx hr.toInt64 (f (20 + 3 * d + 1)).toInt64 (f (20 + 3 * d + 2)).toInt64) 0 = true := decide_eq_true e2
        rw [if_neg (fun z => z.2 e2)]
        exact ⟨ls, pc, mid _ (Go.step (o_if_t (t := 65) rfl rfl hc3) next), z2⟩
      · have hc3 : cDec .eq (inx hr.toInt64 (f (20 + 3 * d + 1)).toInt64 (f (20 + 3 * d + 2)).toInt64) 0 = false := decide_eq_false e2
        rw [if_pos ⟨e1, e2⟩]
        exact ⟨dLs p hr i, 64, mid _ (Go.step (o_if_f (t := 65) rfl rfl hc3) (Go.step (o_step rfl rfl) Go.rf)), rfl⟩
    · have hc2 : cDec .ne (f (20 + 3 * d)) p = true := decide_eq_true e1
      rw [if_neg (fun z => e1 z.1)]
      exact ⟨ls, pc, pre _ (Go.step (o_ic_t (t := 65) rfl rfl hc2) next), z2⟩
