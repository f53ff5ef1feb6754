/-! BITS, the method -/
theorem bt_and_b : (List.range 1024).all (fun x => (Int32.ofNat x &&& (Int32.ofNat x - Int32.ofInt 1)) == Int32.ofNat (x &&& (x - 1)) && (Nat.beq x 0 || !(Int32.ofNat x == 0))) = true := by decide +kernel
theorem bt_and {x : Nat} (h : x < 1024) : (Int32.ofNat x &&& (Int32.ofNat x - Int32.ofInt 1)) = Int32.ofNat (x &&& (x - 1)) := eq_of_beq (and_inv (List.all_eq_true.mp bt_and_b x (List.mem_range.mpr h))).1
theorem bt_nz {x : Nat} (h : x < 1024) (h0 : 0 < x) : Int32.ofNat x ≠ 0 := fun e => by
  have h1 := (and_inv (List.all_eq_true.mp bt_and_b x (List.mem_range.mpr h))).2
  have e0 : Nat.beq x 0 = false := by
    cases z : Nat.beq x 0 with
    | false => rfl
    | true => have := Nat.eq_of_beq_eq_true z; omega
  rw [e0, e] at h1
  cases h1
theorem bt_loop {call : cCl} {x0 : Int32} {h : List cC} : ∀ (m x : Nat) (n : Int32), x < 1024 → bN x = m → Go call eM158 none (4, [(2, cI (Int32.ofNat x)), (1, cI n), (0, cI x0)], [], h) (20, [(2, cI 0), (1, cI (n + Int32.ofNat m)), (0, cI x0)], [], h)
  | m, 0, n, hx, hm => by
    have e : m = 0 := by rw [← hm]; rfl
    subst e
    have e2 : n + Int32.ofNat 0 = n := Int32.add_zero n
    rw [e2]
    exact Go.step (o_iload_n (i := 2) rfl rfl) (Go.step (o_step rfl rfl) Go.rf)
  | 0, x + 1, n, hx, hm => by
    have := bN_pos (x := x + 1) (by omega) hx
    omega
  | m + 1, x + 1, n, hx, hm => by
    have hnz := bt_nz hx (by omega)
    have s5 : cOne call eM158 none (5, [(2, cI (Int32.ofNat (x + 1))), (1, cI n), (0, cI x0)], [cI (Int32.ofNat (x + 1))], h) = some (8, [(2, cI (Int32.ofNat (x + 1))), (1, cI n), (0, cI x0)], [], h) := o_step (ins := .ifCond .eq 15) (len := 3) rfl (by
      show kIf .eq 15 3 5 _ [cI (Int32.ofNat (x + 1))] h = _
      unfold kIf
      have hd : cDec .eq (Int32.ofNat (x + 1)) 0 = false := decide_eq_false hnz
      dsimp only
      rw [hd]
      rfl)
    have hl := bN_less (x := x + 1) (by omega) hx
    have hlt : (x + 1) &&& (x + 1 - 1) < 1024 := Nat.lt_of_le_of_lt Nat.and_le_left hx
    have ih := bt_loop (call := call) (x0 := x0) (h := h) m ((x + 1) &&& (x + 1 - 1)) (n + Int32.ofInt 1) hlt (by omega)
    rw [← bt_and hx] at ih
    have e3 : n + Int32.ofInt 1 + Int32.ofNat m = n + Int32.ofNat (m + 1) := by
      rw [Int32.ofNat_add, Int32.add_assoc, Int32.add_comm (Int32.ofNat m)]
      rfl
    rw [e3] at ih
    have s8g : ∀ ls : List (Nat × cV), clk ls 1 = some (cI n) → cOne call eM158 none (8, ls, [], h) = some (11, (1, cI (n + Int32.ofInt 1)) :: ls.filter (ckI 1), [], h) := fun ls c => o_step (ins := .iinc 1 1) (len := 3) rfl (by
      show kInc _ 1 1 3 8 ls [] h = _
      unfold kInc
      rw [c]
      rfl)
    have s8 : cOne call eM158 none (8, [(2, cI (Int32.ofNat (x + 1))), (1, cI n), (0, cI x0)], [], h) = some (11, [(1, cI (n + Int32.ofInt 1)), (2, cI (Int32.ofNat (x + 1))), (0, cI x0)], [], h) := s8g _ rfl
    have s13 : cOne call eM158 none (13, [(1, cI (n + Int32.ofInt 1)), (2, cI (Int32.ofNat (x + 1))), (0, cI x0)], [cI (Int32.ofNat (x + 1)), cI (Int32.ofNat (x + 1))], h) = some (14, [(1, cI (n + Int32.ofInt 1)), (2, cI (Int32.ofNat (x + 1))), (0, cI x0)], [cI (Int32.ofInt 1), cI (Int32.ofNat (x + 1)), cI (Int32.ofNat (x + 1))], h) := o_step rfl rfl
    have s14 : cOne call eM158 none (14, [(1, cI (n + Int32.ofInt 1)), (2, cI (Int32.ofNat (x + 1))), (0, cI x0)], [cI (Int32.ofInt 1), cI (Int32.ofNat (x + 1)), cI (Int32.ofNat (x + 1))], h) = some (15, [(1, cI (n + Int32.ofInt 1)), (2, cI (Int32.ofNat (x + 1))), (0, cI x0)], [cI (Int32.ofNat (x + 1) - Int32.ofInt 1), cI (Int32.ofNat (x + 1))], h) := o_step rfl rfl
    have s15 : cOne call eM158 none (15, [(1, cI (n + Int32.ofInt 1)), (2, cI (Int32.ofNat (x + 1))), (0, cI x0)], [cI (Int32.ofNat (x + 1) - Int32.ofInt 1), cI (Int32.ofNat (x + 1))], h) = some (16, [(1, cI (n + Int32.ofInt 1)), (2, cI (Int32.ofNat (x + 1))), (0, cI x0)], [cI (Int32.ofNat (x + 1) &&& (Int32.ofNat (x + 1) - Int32.ofInt 1))], h) := o_step rfl rfl
    have s16 : ∀ y : Int32, cOne call eM158 none (16, [(1, cI (n + Int32.ofInt 1)), (2, cI (Int32.ofNat (x + 1))), (0, cI x0)], [cI y], h) = some (17, [(2, cI y), (1, cI (n + Int32.ofInt 1)), (0, cI x0)], [], h) := fun y => o_step rfl rfl
    have s17 : ∀ L : List (Nat × cV), cOne call eM158 none (17, L, [], h) = some (4, L, [], h) := fun L => o_step rfl rfl
    exact Go.step (o_iload_n (i := 2) rfl rfl) (Go.step s5 (Go.step s8 (Go.step (o_iload_n (i := 2) rfl rfl) (Go.step (o_iload_n (i := 2) rfl rfl) (Go.step s13 (Go.step s14 (Go.step s15 (Go.step (s16 _) (Go.step (s17 _) ih)))))))))
theorem bt_trm {h : List cC} {x : Nat} (hx : x < 1024) : Trm 1 158 [cI (Int32.ofNat x)] h (some (cI (Int32.ofNat (bN x)))) h := by
  refine Trm_succ.mpr ⟨eM158, (21, [(2, cI 0), (1, cI (0 + Int32.ofNat (bN x))), (0, cI (Int32.ofNat x))], [cI (0 + Int32.ofNat (bN x))], h), rfl, Nat.le_of_ble_eq_true rfl, ?_, by rw [Int32.zero_add]; rfl⟩
  have g := bt_loop (call := calF (Trm 0)) (x0 := Int32.ofNat x) (h := h) (bN x) x 0 hx rfl
  exact Go.step (o_step rfl rfl) (Go.step (o_step rfl rfl) (Go.step (o_iload_n (i := 0) rfl rfl) (Go.step (o_step rfl rfl) (Go.trans g (Go.step (o_iload_n (i := 1) rfl rfl) Go.rf)))))
