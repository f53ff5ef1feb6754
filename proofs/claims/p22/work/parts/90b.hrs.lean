/-! THE WAY, 2: isDeaf, isProud, hears -/
theorem sa_1 {f : Nat → Int32} (hr : rI 230 (-2147483648, 2147483647) saST f) : ∃ N M K : Nat, (f 1).toInt = N ∧ N ≤ 12 ∧ (f 2).toInt = M ∧ M ≤ 12 ∧ (f 0).toInt = K ∧ K ≤ 30 := by
  have h1 := (hr 1 (by decide)).2 (1, 1, 2, (0, 12)) (by decide) ⟨0, by decide, rfl⟩
  have h2 := (hr 2 (by decide)).2 (1, 1, 2, (0, 12)) (by decide) ⟨1, by decide, rfl⟩
  have h3 := (hr 0 (by decide)).2 (0, 1, 1, (0, 30)) (by decide) ⟨0, by decide, rfl⟩
  have a1 : (0 : Int) ≤ (f 1).toInt := h1.1
  have a2 : (f 1).toInt ≤ (12 : Int) := h1.2
  have b1 : (0 : Int) ≤ (f 2).toInt := h2.1
  have b2 : (f 2).toInt ≤ (12 : Int) := h2.2
  have c1 : (0 : Int) ≤ (f 0).toInt := h3.1
  have c2 : (f 0).toInt ≤ (30 : Int) := h3.2
  exact ⟨(f 1).toInt.toNat, (f 2).toInt.toNat, (f 0).toInt.toNat, by omega, by omega, by omega, by omega, by omega, by omega⟩
def dfR (f : Nat → Int32) (p hr : Int32) : Int32 := dfl f p hr (f 1).toInt.toNat 0
def prR (f : Nat → Int32) (p o : Int32) : Int32 := prl f p o (f 2).toInt.toNat 0
theorem df_trm {h : List cC} (hG : HG TT [] h) {f : Nat → Int32} (r3 : h[183]? = some (.inr (.inl (0, 230, f)))) (p hr : Int32) : Trm 2 191 [cR 170, cI p, cI hr] h (some (cI (dfR f p hr))) h := by
  obtain ⟨vs, m1, _⟩ := mo_at hG
  have m26 := mo_sa hG m1
  obtain ⟨f', r4, hf⟩ := HG_sa hG
  rw [r3] at r4
  cases r4
  obtain ⟨N, M, K, n1, n2, _⟩ := sa_1 hf
  have e : (f 1).toInt.toNat = N := by omega
  unfold dfR
  rw [e]
  obtain ⟨ls, pc, z1, z2⟩ := df_loop m1 m26 r3 n1 n2 p hr N 0 (Int32.ofInt 0) (by omega) rfl
  exact Trm_succ.mpr ⟨eM191, _, rfl, Nat.le_of_ble_eq_true rfl, Go.step (o_step rfl rfl) (Go.step (o_step rfl rfl) z1), z2⟩
theorem pr_loop {h : List cC} {vs : List cV} {f : Nat → Int32} (m1 : h[170]? = some (.inl (12, vs))) (m26 : vs[26]? = some (cR 183)) (r3 : h[183]? = some (.inr (.inl (0, 230, f)))) {N : Nat} (hN : (f 2).toInt = N) (hN12 : N ≤ 12) (p o : Int32) : ∀ (n d : Nat) (i : Int32), d + n = N → i.toInt = d → ∃ (ls : List (Nat × cV)) (pc : Nat), Go (calF (Trm 1)) eM203 none (2, dLs p o i, [], h) (pc, ls, [cI (prl f p o n d)], h) ∧ cEnd eM203 (pc, ls, [cI (prl f p o n d)], h) = some (some (cI (prl f p o n d)), h)
  | 0, d, i, hd, hi => by
    have hc : cDec .ge i (f 2) = true := decide_eq_true (Int32.le_iff_toInt_le.mpr (by omega))
    have s8 : ∀ (ls : List (Nat × cV)) (st : List cV), cOne (calF (Trm 1)) eM203 none (8, ls, cI (Int32.ofInt 2) :: cR 183 :: st, h) = some (9, ls, cI (f 2) :: st, h) := fun ls st => o_iald (i := Int32.ofInt 2) rfl r3 rfl
    exact ⟨dLs p o i, 53, Go.step (o_iload_n (i := 3) rfl rfl) (Go.step (o_aload_n (i := 0) rfl rfl) (Go.step (o_get rfl rfl rfl m1 m26) (Go.step (o_step rfl rfl) (Go.step (s8 _ _) (Go.step (o_ic_t (t := 52) rfl rfl hc) (Go.step (o_step rfl rfl) Go.rf)))))), rfl⟩
  | n + 1, d, i, hd, hi => by
    have hc : cDec .ge i (f 2) = false := decide_eq_false (fun z => by have := Int32.le_iff_toInt_le.mp z; omega)
    have s8 : ∀ (ls : List (Nat × cV)) (st : List cV), cOne (calF (Trm 1)) eM203 none (8, ls, cI (Int32.ofInt 2) :: cR 183 :: st, h) = some (9, ls, cI (f 2) :: st, h) := fun ls st => o_iald (i := Int32.ofInt 2) rfl r3 rfl
    have e20 : ((Int8.ofInt 56).toInt32).toInt = 56 := rfl
    have e2 : (Int32.ofInt 2).toInt = 2 := rfl
    have a1 : (Int32.ofInt 2 * i).toInt = 2 * i.toInt := by rw [i32_mul (by rw [e2]; omega) (by rw [e2]; omega), e2]
    have a2 : ((Int8.ofInt 56).toInt32 + Int32.ofInt 2 * i).toInt = ((56 + 2 * d : Nat) : Int) := by
      rw [i32_add (by rw [e20]; omega) (by rw [e20]; omega), e20]
      omega
    have a3 : ((Int8.ofInt 56).toInt32 + Int32.ofInt 2 * i + Int32.ofInt 1).toInt = ((56 + 2 * d + 1 : Nat) : Int) := by
      rw [i32_add (by rw [one_i]; omega) (by rw [one_i]; omega), one_i]
      omega
    obtain ⟨i1, i2⟩ := in_B (n := 230) a2 (by omega)
    obtain ⟨j1, j2⟩ := in_B (n := 230) a3 (by omega)
    have s22 : ∀ (ls : List (Nat × cV)) (st : List cV), cOne (calF (Trm 1)) eM203 none (22, ls, cI ((Int8.ofInt 56).toInt32 + Int32.ofInt 2 * i) :: cR 183 :: st, h) = some (23, ls, cI (f (56 + 2 * d)) :: st, h) := fun ls st => by
      have := o_iald (call := calF (Trm 1)) (M := eM203) (sc := none) (pc := 22) (ls := ls) (st := st) rfl r3 i1
      rw [i2] at this
      exact this
    have s39 : ∀ (ls : List (Nat × cV)) (st : List cV), cOne (calF (Trm 1)) eM203 none (39, ls, cI ((Int8.ofInt 56).toInt32 + Int32.ofInt 2 * i + Int32.ofInt 1) :: cR 183 :: st, h) = some (40, ls, cI (f (56 + 2 * d + 1)) :: st, h) := fun ls st => by
      have := o_iald (call := calF (Trm 1)) (M := eM203) (sc := none) (pc := 39) (ls := ls) (st := st) rfl r3 j1
      rw [j2] at this
      exact this
    have pre : ∀ S : cS, Go (calF (Trm 1)) eM203 none (24, dLs p o i, [cI p, cI (f (56 + 2 * d))], h) S → Go (calF (Trm 1)) eM203 none (2, dLs p o i, [], h) S := fun S hs => Go.step (o_iload_n (i := 3) rfl rfl) (Go.step (o_aload_n (i := 0) rfl rfl) (Go.step (o_get rfl rfl rfl m1 m26) (Go.step (o_step rfl rfl) (Go.step (s8 _ _) (Go.step (o_ic_f (t := 52) rfl rfl hc) (Go.step (o_aload_n (i := 0) rfl rfl) (Go.step (o_get rfl rfl rfl m1 m26) (Go.step (o_step rfl rfl) (Go.step (o_step rfl rfl) (Go.step (o_iload_n (i := 3) rfl rfl) (Go.step (o_step rfl rfl) (Go.step (o_step rfl rfl) (Go.step (s22 _ _) (Go.step (o_iload_n (i := 1) rfl rfl) hs))))))))))))))
    have hi1 : (i + Int32.ofInt 1).toInt = ((d + 1 : Nat) : Int) := by
      rw [i32_add (by rw [one_i]; omega) (by rw [one_i]; omega), one_i]
      omega
    obtain ⟨ls, pc, z1, z2⟩ := pr_loop m1 m26 r3 hN hN12 p o n (d + 1) (i + Int32.ofInt 1) (by omega) hi1
    have s46 : cOne (calF (Trm 1)) eM203 none (46, dLs p o i, [], h) = some (49, dLs p o (i + Int32.ofInt 1), [], h) := o_step (ins := .iinc 3 1) (len := 3) rfl rfl
    have next : Go (calF (Trm 1)) eM203 none (46, dLs p o i, [], h) (pc, ls, [cI (prl f p o n (d + 1))], h) := Go.step s46 (Go.step (o_step rfl rfl) z1)
    unfold prl
    by_cases e1 : f (56 + 2 * d) = p
    · have hc2 : cDec .ne (f (56 + 2 * d)) p = false := decide_eq_false (fun z => z e1)
      have mid : ∀ S : cS, Go (calF (Trm 1)) eM203 none (41, dLs p o i, [cI o, cI (f (56 + 2 * d + 1))], h) S → Go (calF (Trm 1)) eM203 none (2, dLs p o i, [], h) S := fun S hs => pre _ (Go.step (o_ic_f (t := 46) rfl rfl hc2) (Go.step (o_aload_n (i := 0) rfl rfl) (Go.step (o_get rfl rfl rfl m1 m26) (Go.step (o_step rfl rfl) (Go.step (o_step rfl rfl) (Go.step (o_iload_n (i := 3) rfl rfl) (Go.step (o_step rfl rfl) (Go.step (o_step rfl rfl) (Go.step (o_step rfl rfl) (Go.step (o_step rfl rfl) (Go.step (s39 _ _) (Go.step (o_iload_n (i := 2) rfl rfl) hs))))))))))))
      by_cases e2 : f (56 + 2 * d + 1) = o
      · have hc3 : cDec .ne (f (56 + 2 * d + 1)) o = false := decide_eq_false (fun z => z e2)
        rw [if_pos ⟨e1, e2⟩]
        exact ⟨dLs p o i, 45, mid _ (Go.step (o_ic_f (t := 46) rfl rfl hc3) (Go.step (o_step rfl rfl) Go.rf)), rfl⟩
      · have hc3 : cDec .ne (f (56 + 2 * d + 1)) o = true := decide_eq_true e2
        rw [if_neg (fun z => e2 z.2)]
        exact ⟨ls, pc, mid _ (Go.step (o_ic_t (t := 46) rfl rfl hc3) next), z2⟩
    · have hc2 : cDec .ne (f (56 + 2 * d)) p = true := decide_eq_true e1
      rw [if_neg (fun z => e1 z.1)]
      exact ⟨ls, pc, pre _ (Go.step (o_ic_t (t := 46) rfl rfl hc2) next), z2⟩
theorem pr_trm {h : List cC} (hG : HG TT [] h) {f : Nat → Int32} (r3 : h[183]? = some (.inr (.inl (0, 230, f)))) (p o : Int32) : Trm 2 203 [cR 170, cI p, cI o] h (some (cI (prR f p o))) h := by
  obtain ⟨vs, m1, _⟩ := mo_at hG
  have m26 := mo_sa hG m1
  obtain ⟨f', r4, hf⟩ := HG_sa hG
  rw [r3] at r4
  cases r4
  obtain ⟨N, M, K, _, _, n1, n2, _⟩ := sa_1 hf
  have e : (f 2).toInt.toNat = M := by omega
  unfold prR
  rw [e]
  obtain ⟨ls, pc, z1, z2⟩ := pr_loop m1 m26 r3 n1 n2 p o M 0 (Int32.ofInt 0) (by omega) rfl
  exact Trm_succ.mpr ⟨eM203, _, rfl, Nat.le_of_ble_eq_true rfl, Go.step (o_step rfl rfl) (Go.step (o_step rfl rfl) z1), z2⟩
def hrF (f : Nat → Int32) (p o hr : Int32) : Int32 := if dfR f p hr = 0 ∧ prR f p o = 0 then Int32.ofInt 1 else Int32.ofInt 0
theorem he_trm {h : List cC} (hG : HG TT [] h) {f : Nat → Int32} (r3 : h[183]? = some (.inr (.inl (0, 230, f)))) (p o hr : Int32) : Trm 3 187 [cR 170, cI p, cI o, cI hr] h (some (cI (hrF f p o hr))) h := by
  obtain ⟨vs, m1, _⟩ := mo_at hG
  have s3 : cOne (calF (Trm 2)) eM187 none (3, [(0, cR 170), (1, cI p), (2, cI o), (3, cI hr)], [cI hr, cI p, cR 170], h) = some (6, [(0, cR 170), (1, cI p), (2, cI o), (3, cI hr)], [cI (dfR f p hr)], h) := gh_inv (d := 2) (mi := 191) (N := eM191) (pc := 3) (ls := [(0, cR 170), (1, cI p), (2, cI o), (3, cI hr)]) (st := [cI hr, cI p, cR 170]) (r := some (cI (dfR f p hr))) rfl rfl rfl rfl rfl (by show recC h 12 [cR 170, cI p, cI hr] = true; unfold recC; dsimp only; rw [m1]; rfl) (df_trm hG r3 p hr)
  have s12 : cOne (calF (Trm 2)) eM187 none (12, [(0, cR 170), (1, cI p), (2, cI o), (3, cI hr)], [cI o, cI p, cR 170], h) = some (15, [(0, cR 170), (1, cI p), (2, cI o), (3, cI hr)], [cI (prR f p o)], h) := gh_inv (d := 2) (mi := 203) (N := eM203) (pc := 12) (ls := [(0, cR 170), (1, cI p), (2, cI o), (3, cI hr)]) (st := [cI o, cI p, cR 170]) (r := some (cI (prR f p o))) rfl rfl rfl rfl rfl (by show recC h 12 [cR 170, cI p, cI o] = true; unfold recC; dsimp only; rw [m1]; rfl) (pr_trm hG r3 p o)
  have p1 : ∀ S : cS, Go (calF (Trm 2)) eM187 none (6, [(0, cR 170), (1, cI p), (2, cI o), (3, cI hr)], [cI (dfR f p hr)], h) S → Go (calF (Trm 2)) eM187 none (0, [(0, cR 170), (1, cI p), (2, cI o), (3, cI hr)], [], h) S := fun S hs => Go.step (o_aload_n (i := 0) rfl rfl) (Go.step (o_iload_n (i := 1) rfl rfl) (Go.step (o_iload_n (i := 3) rfl rfl) (Go.step s3 hs)))
  have p2 : ∀ S : cS, Go (calF (Trm 2)) eM187 none (15, [(0, cR 170), (1, cI p), (2, cI o), (3, cI hr)], [cI (prR f p o)], h) S → Go (calF (Trm 2)) eM187 none (9, [(0, cR 170), (1, cI p), (2, cI o), (3, cI hr)], [], h) S := fun S hs => Go.step (o_aload_n (i := 0) rfl rfl) (Go.step (o_iload_n (i := 1) rfl rfl) (Go.step (o_iload_n (i := 2) rfl rfl) (Go.step s12 hs)))
  unfold hrF
  by_cases e1 : dfR f p hr = 0
  · have c1 : cDec .ne (dfR f p hr) 0 = false := decide_eq_false (fun z => z e1)
    by_cases e2 : prR f p o = 0
    · have c2 : cDec .ne (prR f p o) 0 = false := decide_eq_false (fun z => z e2)
      rw [if_pos ⟨e1, e2⟩]
      exact Trm_succ.mpr ⟨eM187, (23, [(0, cR 170), (1, cI p), (2, cI o), (3, cI hr)], [cI (Int32.ofInt 1)], h), rfl, Nat.le_of_ble_eq_true rfl, p1 _ (Go.step (o_if_f (t := 22) rfl rfl c1) (p2 _ (Go.step (o_if_f (t := 22) rfl rfl c2) (Go.step (o_step rfl rfl) (Go.step (o_step rfl rfl) Go.rf))))), rfl⟩
    · have c2 : cDec .ne (prR f p o) 0 = true := decide_eq_true e2
      rw [if_neg (fun z => e2 z.2)]
      exact Trm_succ.mpr ⟨eM187, (23, [(0, cR 170), (1, cI p), (2, cI o), (3, cI hr)], [cI (Int32.ofInt 0)], h), rfl, Nat.le_of_ble_eq_true rfl, p1 _ (Go.step (o_if_f (t := 22) rfl rfl c1) (p2 _ (Go.step (o_if_t (t := 22) rfl rfl c2) (Go.step (o_step rfl rfl) Go.rf)))), rfl⟩
  · have c1 : cDec .ne (dfR f p hr) 0 = true := decide_eq_true e1
    rw [if_neg (fun z => e1 z.1)]
    exact Trm_succ.mpr ⟨eM187, (23, [(0, cR 170), (1, cI p), (2, cI o), (3, cI hr)], [cI (Int32.ofInt 0)], h), rfl, Nat.le_of_ble_eq_true rfl, p1 _ (Go.step (o_if_t (t := 22) rfl rfl c1) (Go.step (o_step rfl rfl) Go.rf)), rfl⟩
