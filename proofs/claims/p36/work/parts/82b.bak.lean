/-- the loop of back -/
theorem bk_loop {call : cCl} {k : Int32} (hk : 0 ≤ k.toInt ∧ k.toInt < 4) {g : Nat → Int32} (hg : rI 920 (-2147483648, 2147483647) imST g) : ∀ (n : Nat) (i : Int32) (ls : List (Nat × cV)) (h : List cC) (f : Nat → Int32), HG TT [] h → h[203]? = some (.inr (.inl (0, 920, g))) → h[183]? = some (.inr (.inl (0, 230, f))) → clk3 ls k i → 0 ≤ i.toInt → i.toInt + (n : Int) = 230 → ∃ (ls2 : List (Nat × cV)) (f2 : Nat → Int32), Go call eM155 none (25, ls, [], h) (56, ls2, [], h.set 183 (.inr (.inl (0, 230, f2)))) ∧ HG TT [] (h.set 183 (.inr (.inl (0, 230, f2)))) ∧ clk ls2 0 = some (cR 170) ∧ (∀ m : Nat, (i.toInt.toNat ≤ m → m < 230 → f2 m = g (230 * k.toInt.toNat + m))) ∧ ∀ m : Nat, m < i.toInt.toNat → f2 m = f m
  | 0, i, ls, h, f, hG, h1, h2, hc, hi, hn => by
    obtain ⟨c0, c1, c2⟩ := hc
    have hset : h.set 183 (.inr (.inl (0, 230, f))) = h := by
      apply List.ext_getElem?
      intro j
      by_cases e : j = 183
      · subst e
        rw [List.getElem?_set_self (List.getElem?_eq_some_iff.mp h2).1, h2]
      · rw [List.getElem?_set_ne (Ne.symm e)]
    refine ⟨ls, f, ?_, by rw [hset]; exact hG, c0, fun m m1 m2 => by omega, fun m _ => rfl⟩
    rw [hset]
    have s27 : cOne call eM155 none (29, ls, [cI ((Int16.ofInt 230).toInt32), cI i], h) = some (56, ls, [], h) := o_step (ins := .if_icmp .ge 27) (len := 3) rfl (by
      show kIc .ge 27 3 29 ls [cI ((Int16.ofInt 230).toInt32), cI i] h = _
      unfold kIc
      have hd : cDec .ge i ((Int16.ofInt 230).toInt32) = true := decide_eq_true (Int32.le_iff_toInt_le.mpr (by rw [c230]; omega))
      dsimp only
      rw [hd]
      rfl)
    exact Go.step (o_iload_n (i := 2) rfl c2) (Go.step (o_step rfl rfl) (Go.step s27 Go.rf))
  | n + 1, i, ls, h, f, hG, h1, h2, hc, hi, hn => by
    obtain ⟨c0, c1, c2⟩ := hc
    have hi2 : 0 ≤ i.toInt ∧ i.toInt < 230 := ⟨hi, by omega⟩
    obtain ⟨vs, g1, g2⟩ := mod_at hG (j := 26) (k := 183) rfl
    obtain ⟨vs', g3, g4⟩ := mod_at hG (j := 49) (k := 203) rfl
    rw [g1] at g3
    cases g3
    have s27 : cOne call eM155 none (29, ls, [cI ((Int16.ofInt 230).toInt32), cI i], h) = some (32, ls, [], h) := o_step (ins := .if_icmp .ge 27) (len := 3) rfl (by
      show kIc .ge 27 3 29 ls [cI ((Int16.ofInt 230).toInt32), cI i] h = _
      unfold kIc
      have hd : cDec .ge i ((Int16.ofInt 230).toInt32) = false := decide_eq_false (fun z => by have := Int32.le_iff_toInt_le.mp z; rw [c230] at this; omega)
      dsimp only
      rw [hd]
      rfl)
    have hx := idx230 hk hi2
    have in1 : inB i 230 = true := decide_eq_true (show vp_in i 230 from vp_in_iff.mpr ⟨by omega, by omega⟩)
    have in2 : inB ((Int16.ofInt 230).toInt32 * k + i) 920 = true := decide_eq_true (show vp_in _ 920 from vp_in_iff.mpr ⟨by omega, by omega⟩)
    have hidx : ((Int16.ofInt 230).toInt32 * k + i).toNatClampNeg = 230 * k.toInt.toNat + i.toInt.toNat := by
      show ((Int16.ofInt 230).toInt32 * k + i).toInt.toNat = _
      rw [hx]
      omega
    have sld : cOne call eM155 none (48, ls, [cI ((Int16.ofInt 230).toInt32 * k + i), cR 203, cI i, cR 183], h) = some (49, ls, [cI (g (230 * k.toInt.toNat + i.toInt.toNat)), cI i, cR 183], h) := by
      have := o_iald (call := call) (M := eM155) (sc := none) (ls := ls) (st := [cI i, cR 183]) (pc := 48) rfl h1 in2
      rw [hidx] at this
      exact this
    have sst : cOne call eM155 none (49, ls, [cI (g (230 * k.toInt.toNat + i.toInt.toNat)), cI i, cR 183], h) = some (50, ls, [], h.set 183 (.inr (.inl (0, 230, upd f i.toInt.toNat (g (230 * k.toInt.toNat + i.toInt.toNat)))))) := o_iast (st := []) rfl h2 in1
    have sinc : ∀ hh : List cC, cOne call eM155 none (50, ls, [], hh) = some (53, (2, cI (i + Int32.ofInt 1)) :: ls.filter (ckI 2), [], hh) := fun hh => o_step (ins := .iinc 2 1) (len := 3) rfl (by
      show kInc _ 2 1 3 50 ls [] hh = _
      unfold kInc
      rw [c2]
      rfl)
    have hG2 := HG_saset hG hg h2 (j := k.toInt.toNat) (i := i.toInt.toNat) (by omega) (by omega)
    have hi3 := inc1 hi2
    obtain ⟨ls2, ff, z1, z2, z3, z4, z5⟩ := bk_loop (call := call) hk hg n (i + Int32.ofInt 1) ((2, cI (i + Int32.ofInt 1)) :: ls.filter (ckI 2)) (h.set 183 (.inr (.inl (0, 230, upd f i.toInt.toNat (g (230 * k.toInt.toNat + i.toInt.toNat)))))) (upd f i.toInt.toNat (g (230 * k.toInt.toNat + i.toInt.toNat))) hG2 (by rw [List.getElem?_set_ne (by decide)]; exact h1) (List.getElem?_set_self (List.getElem?_eq_some_iff.mp h2).1) ⟨clk_st rfl rfl rfl c0, clk_st rfl rfl rfl c1, clk_hd⟩ (by omega) (by omega)
    rw [List.set_set] at z1 z2
    refine ⟨ls2, ff, Go.step (o_iload_n (i := 2) rfl c2) (Go.step (o_step rfl rfl) (Go.step s27 (Go.step (o_aload_n (i := 0) rfl c0) (Go.step (o_get rfl rfl rfl g1 g2) (Go.step (o_iload_n (i := 2) rfl c2) (Go.step (o_aload_n (i := 0) rfl c0) (Go.step (o_get rfl rfl rfl g1 g4) (Go.step (o_step rfl rfl) (Go.step (o_iload_n (i := 1) rfl c1) (Go.step (o_step rfl rfl) (Go.step (o_iload_n (i := 2) rfl c2) (Go.step (o_step rfl rfl) (Go.step sld (Go.step sst (Go.step (sinc _) (Go.step (o_step rfl rfl) z1)))))))))))))))), z2, z3, fun m m1 m2 => ?_, fun m hm => ?_⟩
    · by_cases e : m = i.toInt.toNat
      · subst e
        rw [z5 _ (by omega), pk_us]
      · exact z4 m (by omega) m2
    · rw [z5 m (by omega), pk_un (by omega)]
