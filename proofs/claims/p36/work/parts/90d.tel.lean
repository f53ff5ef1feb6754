/-! THE WAY, 4: tellsOn -/
theorem or_b : (List.range 1024).all (fun x => (List.range 10).all (fun k => (Int32.ofNat x ||| (Int32.ofInt 1 <<< (Int32.ofNat k &&& 31))) == Int32.ofNat (x ||| 1 <<< k) && Nat.blt (x ||| 1 <<< k) 1024)) = true := by decide +kernel
theorem or_k {x k : Nat} (hx : x < 1024) (hk : k < 10) : (Int32.ofNat x ||| (Int32.ofInt 1 <<< (Int32.ofNat k &&& 31))) = Int32.ofNat (x ||| 1 <<< k) ∧ x ||| 1 <<< k < 1024 := by
  have h1 := and_inv (List.all_eq_true.mp (List.all_eq_true.mp or_b x (List.mem_range.mpr hx)) k (List.mem_range.mpr hk))
  exact ⟨eq_of_beq h1.1, Nat.le_of_ble_eq_true h1.2⟩
theorem sh_b : (List.range 10).all (fun k => (Int32.ofInt 1 <<< (Int32.ofNat k &&& 31)) == Int32.ofNat (1 <<< k) && (Nat.blt (1 <<< k) 1024 && (Nat.beq (bN (1 <<< k)) 1 && (List.range 10).all (fun j => bOf (1 <<< k) j == Nat.beq j k)))) = true := by decide +kernel
theorem sh_k {k : Nat} (hk : k < 10) : (Int32.ofInt 1 <<< (Int32.ofNat k &&& 31)) = Int32.ofNat (1 <<< k) ∧ 1 <<< k < 1024 ∧ bN (1 <<< k) = 1 ∧ ∀ j : Nat, j < 10 → bOf (1 <<< k) j = Nat.beq j k := by
  have h1 := and_inv (List.all_eq_true.mp sh_b k (List.mem_range.mpr hk))
  have h2 := and_inv h1.2
  have h3 := and_inv h2.2
  exact ⟨eq_of_beq h1.1, Nat.le_of_ble_eq_true h2.1, nbeq_t h3.1, fun j hj => eq_of_beq (List.all_eq_true.mp h3.2 j (List.mem_range.mpr hj))⟩
theorem bOf_big {x k : Nat} (hx : x < 1024) (hk : 10 ≤ k) : bOf x k = false := by
  have h1 : x >>> k = 0 := by
    rw [Nat.shiftRight_eq_div_pow]
    exact Nat.div_eq_of_lt (Nat.lt_of_lt_of_le hx (Nat.pow_le_pow_right (n := 2) (by decide) hk : 2 ^ 10 ≤ 2 ^ k))
  unfold bOf
  rw [h1]
  rfl
theorem nat_i {n : Nat} (h : n < 2147483648) : (Int32.ofNat n).toInt = n := Int32.toInt_ofNat_of_lt h
theorem o_ist {call : cCl} {M : eM} {pc i : Nat} {ls : List (Nat × cV)} {st : List cV} {h : List cC} {x : Int32} (hf : fnd (m_il M) pc = some (.istore i, 2)) (hm : Nat.ble (i + 1) (m_L M) = true) : cOne call M none (pc, ls, cI x :: st, h) = some (pc + 2, (i, cI x) :: ls.filter (ckI i), st, h) := o_step hf (by
  show kStoreI (m_L M) i 2 2 pc ls (cI x :: st) h = _
  unfold kStoreI
  exact cNx_t (by rw [hm]; rfl))
theorem o_inc {call : cCl} {M : eM} {pc i : Nat} {n : Int} {ls : List (Nat × cV)} {st : List cV} {h : List cC} {x : Int32} (hf : fnd (m_il M) pc = some (.iinc i n, 3)) (hm : Nat.ble (i + 1) (m_L M) = true) (hl : clk ls i = some (cI x)) : cOne call M none (pc, ls, st, h) = some (pc + 3, (i, cI (x + Int32.ofInt n)) :: ls.filter (ckI i), st, h) := o_step hf (by
  show kInc _ i n 3 pc ls st h = _
  unfold kInc
  rw [hl]
  exact cNx_t (by rw [hm]; rfl))
def LT (ls : List (Nat × cV)) (t hr f p se : Int32) : Prop := clk ls 0 = some (cR 170) ∧ clk ls 1 = some (cI t) ∧ clk ls 2 = some (cI hr) ∧ clk ls 4 = some (cI f) ∧ clk ls 5 = some (cI p) ∧ clk ls 6 = some (cI se)
theorem LT_st {ls : List (Nat × cV)} {t hr f p se : Int32} (h : LT ls t hr f p se) {i : Nat} (hi : i = 7 ∨ i = 8) (u : cV) : LT ((i, u) :: ls.filter (ckI i)) t hr f p se := by
  obtain ⟨h0, h1, h2, h4, h5, h6⟩ := h
  rcases hi with rfl | rfl
  · exact ⟨clk_st rfl rfl rfl h0, clk_st rfl rfl rfl h1, clk_st rfl rfl rfl h2, clk_st rfl rfl rfl h4, clk_st rfl rfl rfl h5, clk_st rfl rfl rfl h6⟩
  · exact ⟨clk_st rfl rfl rfl h0, clk_st rfl rfl rfl h1, clk_st rfl rfl rfl h2, clk_st rfl rfl rfl h4, clk_st rfl rfl rfl h5, clk_st rfl rfl rfl h6⟩
/-- the talk T: who, whom, when, as numbers; it is told, it is heard, whom has not seen it -/
def TK (fw fm fn f : Nat → Int32) (fo mn T F P : Nat) (hr : Int32) : Prop := T < mn ∧ (fw T).toInt = F ∧ F < 10 ∧ (fm T).toInt = P ∧ P < 10 ∧ fn T = hr ∧ hrF f (fm T) (fw T) (fn T) ≠ 0 ∧ bOf fo P = false
theorem te_loop {fw fm fn f : Nat → Int32} {fo mn T F P : Nat} {t hr : Int32} (hT : TK fw fm fn f fo mn T F P hr) (h0 : 0 < hr.toInt) (h9 : hr.toInt ≤ 99) : ∀ (n R : Nat) (r : Int32) (ls : List (Nat × cV)) (h : List cC), R + n = 1024 → r.toInt = R → LT ls t hr (fw T) (fm T) (Int32.ofInt 0) → clk ls 7 = some (cI r) → HG TT [] h → J9 h → RX fw fm fn f fo mn h → (∀ ft : Nat → Int32, h[196]? = some (.inr (.inl (2, 31, ft))) → ft T ≠ 0) → ∃ (ls2 : List (Nat × cV)) (h2 : List cC), Go (calF (Trm 5)) eM245 none (159, ls, [], h) (229, ls2, [], h2) ∧ HG TT [] h2 ∧ Fr PT9 gaW h h2 ∧ J9 h2 ∧ RX fw fm fn f fo mn h2
  | 0, R, r, ls, h, hR, hr1, hl, l7, hG, hJ, hk, ht => by
    have e1024 : ((Int16.ofInt 1024).toInt32).toInt = 1024 := rfl
    have hd : cDec .ge r (Int16.ofInt 1024).toInt32 = true := decide_eq_true (Int32.le_iff_toInt_le.mpr (by omega))
    exact ⟨ls, h, Go.step (o_iload rfl l7) (Go.step (o_step rfl rfl) (Go.step (o_ic_t (t := 229) rfl rfl hd) Go.rf)), hG, Fr.rf, hJ, hk⟩
  | n + 1, R, r, ls, h, hR, hr1, hl, l7, hG, hJ, hk, ht => by
    obtain ⟨t1, t2, t3, t4, t5, t6, t7, t8⟩ := hT
    obtain ⟨c0, c1, c2, c4, c5, c6⟩ := hl
    obtain ⟨vs, m1, _⟩ := mo_at hG
    have m34 := mo_j hG m1 (j := 34) (k := 188) rfl
    obtain ⟨kT, ft, fr, k2, k3, k4⟩ := hk
    have e1024 : ((Int16.ofInt 1024).toInt32).toInt = 1024 := rfl
    have hd : cDec .ge r (Int16.ofInt 1024).toInt32 = false := decide_eq_false (fun z => by have := Int32.le_iff_toInt_le.mp z; omega)
    have hd2 : cDec .ne (Int32.ofInt 0) 0 = false := by decide
    have a1 : ((Int16.ofInt 1024).toInt32 * fw T).toInt = 1024 * (fw T).toInt := by rw [i32_mul (by rw [e1024]; omega) (by rw [e1024]; omega), e1024]
    have a2 : ((Int16.ofInt 1024).toInt32 * fw T + r).toInt = ((1024 * F + R : Nat) : Int) := by
      rw [i32_add (by omega) (by omega), a1]
      omega
    obtain ⟨i1, i2⟩ := in_B (n := 10240) a2 (by omega)
    have s185 : ∀ (ls : List (Nat × cV)) (st : List cV), cOne (calF (Trm 5)) eM245 none (185, ls, cI ((Int16.ofInt 1024).toInt32 * fw T + r) :: cR 188 :: st, h) = some (186, ls, cI (fr (1024 * F + R)) :: st, h) := fun ls st => by
      have := o_iald (call := calF (Trm 5)) (M := eM245) (sc := none) (pc := 185) (ls := ls) (st := st) rfl k3 i1
      rw [i2] at this
      exact this
    have pre : ∀ S : cS, Go (calF (Trm 5)) eM245 none (188, (8, cI (fr (1024 * F + R))) :: ls.filter (ckI 8), [], h) S → Go (calF (Trm 5)) eM245 none (159, ls, [], h) S := fun S hs => Go.step (o_iload rfl l7) (Go.step (o_step rfl rfl) (Go.step (o_ic_f (t := 229) rfl rfl hd) (Go.step (o_iload rfl c6) (Go.step (o_if_f (t := 229) rfl rfl hd2) (Go.step (o_aload_n (i := 0) rfl c0) (Go.step (o_get rfl rfl rfl m1 m34) (Go.step (o_step rfl rfl) (Go.step (o_iload rfl c4) (Go.step (o_step rfl rfl) (Go.step (o_iload rfl l7) (Go.step (o_step rfl rfl) (Go.step (s185 _ _) (Go.step (o_ist rfl rfl) hs)))))))))))))
    have l2 := LT_st ⟨c0, c1, c2, c4, c5, c6⟩ (i := 8) (Or.inr rfl) (cI (fr (1024 * F + R)))
    have l27 : clk ((8, cI (fr (1024 * F + R))) :: ls.filter (ckI 8)) 7 = some (cI r) := clk_st rfl rfl rfl l7
    have l28 : clk ((8, cI (fr (1024 * F + R))) :: ls.filter (ckI 8)) 8 = some (cI (fr (1024 * F + R))) := clk_hd
    generalize hls : (8, cI (fr (1024 * F + R))) :: ls.filter (ckI 8) = ls2 at pre l2 l27 l28
    have hr2 : (r + Int32.ofInt 1).toInt = ((R + 1 : Nat) : Int) := by
      rw [i32_add (by rw [one_i]; omega) (by rw [one_i]; omega), one_i]
      omega
    have next : ∀ h3 : List cC, HG TT [] h3 → J9 h3 → Fr PT9 gaW h h3 → RX fw fm fn f fo mn h3 → ∃ (ls9 : List (Nat × cV)) (h9 : List cC), Go (calF (Trm 5)) eM245 none (223, ls2, [], h3) (229, ls9, [], h9) ∧ HG TT [] h9 ∧ Fr PT9 gaW h h9 ∧ J9 h9 ∧ RX fw fm fn f fo mn h9 := fun h3 g1 g2 g3 g4 => by
      obtain ⟨ls9, h9, z1, z2, z3, z4, z5⟩ := te_loop ⟨t1, t2, t3, t4, t5, t6, t7, t8⟩ h0 h9 n (R + 1) (r + Int32.ofInt 1) ((7, cI (r + Int32.ofInt 1)) :: ls2.filter (ckI 7)) h3 (by omega) hr2 (LT_st l2 (Or.inl rfl) _) clk_hd g1 g2 g4 (fun ft' hft => by
        have := Fr_row g3 (k := 196) rfl k2
        rw [this] at hft
        cases hft
        exact ht ft k2)
      exact ⟨ls9, h9, Go.step (o_inc rfl rfl l27) (Go.step (o_step rfl rfl) z1), z2, Fr.tr (subW_rf gaW) g3 z3, z4, z5⟩
    have z0 : (0 : Int32).toInt = 0 := rfl
    obtain ⟨d0, d1, d2, d4, d5, d6⟩ := l2
    by_cases q1 : 0 < (fr (1024 * F + R)).toInt
    · have q1d : cDec .le (fr (1024 * F + R)) 0 = false := decide_eq_false (fun z => by have := Int32.le_iff_toInt_le.mp z; omega)
      by_cases q2 : (fr (1024 * F + R)).toInt < hr.toInt
      · have q2d : cDec .ge (fr (1024 * F + R)) hr = false := decide_eq_false (fun z => by have := Int32.le_iff_toInt_le.mp z; omega)
        have eR : r = Int32.ofNat R := i32_nat hr1
        have eP : fm T = Int32.ofNat P := i32_nat t4
        have eF : fw T = Int32.ofNat F := i32_nat t2
        have hof := ofF_of (x := R) (k := P) (by omega) t5
        rw [← eR, ← eP] at hof
        have s203 : cOne (calF (Trm 5)) eM245 none (203, ls2, [cI (fm T), cI r], h) = some (206, ls2, [cI (ofF r (fm T))], h) := gh_st (d := 5) (mi := 201) (N := eM201) (pc := 203) (ls := ls2) (st := [cI (fm T), cI r]) (r := some (cI (ofF r (fm T)))) rfl rfl rfl rfl rfl (Trm_le (by decide) (of_trm _ _))
        have pre2 : ∀ S : cS, Go (calF (Trm 5)) eM245 none (206, ls2, [cI (ofF r (fm T))], h) S → Go (calF (Trm 5)) eM245 none (159, ls, [], h) S := fun S hs => pre _ (Go.step (o_iload rfl l28) (Go.step (o_if_f (t := 223) rfl rfl q1d) (Go.step (o_iload rfl l28) (Go.step (o_iload_n (i := 2) rfl d2) (Go.step (o_ic_f (t := 223) rfl rfl q2d) (Go.step (o_iload rfl l27) (Go.step (o_iload rfl d5) (Go.step s203 hs))))))))
        cases hb : bOf R P with
        | true =>
          rw [hb] at hof
          have q3d : cDec .ne (ofF r (fm T)) 0 = true := by rw [hof]; decide
          obtain ⟨ls9, h9', z1, z2⟩ := next h hG hJ Fr.rf ⟨kT, ft, fr, k2, k3, k4⟩
          exact ⟨ls9, h9', pre2 _ (Go.step (o_if_t (t := 223) rfl rfl q3d) z1), z2⟩
        | false =>
          rw [hb] at hof
          have q3d : cDec .ne (ofF r (fm T)) 0 = false := by rw [hof]; decide
          obtain ⟨kn, kw⟩ := k4 F R t3 (by omega) q1
          obtain ⟨o1, o2⟩ := or_k (x := R) (k := F) (by omega) t3
          rw [← eR, ← eF] at o1
          have hFP : F ≠ P := fun e => kT.2.2.2.2.2.2.2.2 T t1 (by rw [eF, eP, e])
          have hb2 : bOf (R ||| 1 <<< F) P = false := by
            rw [bOf_more (by omega) t3 t5, hb]
            cases z : Nat.beq P F with
            | false => rfl
            | true => exact absurd (nbeq_t z).symm hFP
          obtain ⟨h3, y1, y2, y3, y4, y5⟩ := ga_ok hG hJ ⟨kT, ft, fr, k2, k3, k4⟩ (p := fm T) (r := r ||| (Int32.ofInt 1 <<< (fw T &&& 31))) (hr := hr) (P := P) (R := R ||| 1 <<< F) t4 t5 (by rw [o1]; exact nat_i (by omega)) o2 h0 h9 hb2 (fun ft' hft => by
            rw [k2] at hft
            cases hft
            have hh := HasWay_more (who := fun t => (fw t.toNat).toInt) (whom := fun t => (fm t.toNat).toInt) (whn := fun t => (fn t.toNat).toInt) (told := fun t => ft t.toNat ≠ 0) (hrs := fun t => hrF f (fm t.toNat) (fw t.toNat) (fn t.toNat) ≠ 0) (fst := fun x => bOf fo x.toNat = true) (many := (mn : Int)) (t := (T : Int)) (S := fun x => bOf R x.toNat = true) (S2 := fun x => bOf (R ||| 1 <<< F) x.toNat = true) (n := bN R) (H := (fr (1024 * F + R)).toInt) (by
              try dsimp only
              rw [Int.toNat_natCast, t2]
              exact kw) (by (try dsimp only); rw [Int.toNat_natCast, t6]; exact q2) (by omega) (by omega) (by (try dsimp only); rw [Int.toNat_natCast]; exact ht ft k2) (by (try dsimp only); rw [Int.toNat_natCast]; exact t7) (by (try dsimp only); rw [Int.toNat_natCast, t4, Int.toNat_natCast, t8]; exact Bool.false_ne_true) (by (try dsimp only); rw [Int.toNat_natCast, t2, Int.toNat_natCast, kn]; exact Bool.false_ne_true) (fun x hx => by
                try dsimp only at hx ⊢
                by_cases hx10 : x.toNat < 10
                · rw [bOf_more (by omega) t3 hx10, hx]
                  rfl
                · exfalso
                  have : bOf R x.toNat = false := bOf_big (by omega) (by omega)
                  rw [this] at hx
                  cases hx) (by
                try dsimp only
                rw [Int.toNat_natCast, t2, Int.toNat_natCast, bOf_more (by omega) t3 t3, Nat.beq_refl, Bool.or_true])
            try dsimp only at hh
            rw [Int.toNat_natCast, t4, t6] at hh
            unfold WY
            rw [bN_more (by omega) t3 kn]
            exact hh)
          have s220 : cOne (calF (Trm 5)) eM245 none (220, ls2, [cI hr, cI (r ||| (Int32.ofInt 1 <<< (fw T &&& 31))), cI (fm T), cR 170], h) = some (223, ls2, [], h3) := gh_inv (d := 5) (mi := 182) (N := eM182) (pc := 220) (ls := ls2) (st := [cI hr, cI (r ||| (Int32.ofInt 1 <<< (fw T &&& 31))), cI (fm T), cR 170]) (r := none) rfl rfl rfl rfl rfl (by show recC h 12 [cR 170, cI (fm T), cI (r ||| (Int32.ofInt 1 <<< (fw T &&& 31))), cI hr] = true; unfold recC; dsimp only; rw [m1]; rfl) (Trm_le (by decide) y1)
          obtain ⟨ls9, h9', z1, z2⟩ := next h3 y2 y4 y3 y5
          exact ⟨ls9, h9', pre2 _ (Go.step (o_if_f (t := 223) rfl rfl q3d) (Go.step (o_aload_n (i := 0) rfl d0) (Go.step (o_iload rfl d5) (Go.step (o_iload rfl l27) (Go.step (o_step rfl rfl) (Go.step (o_iload rfl d4) (Go.step (o_step rfl rfl) (Go.step (o_step rfl rfl) (Go.step (o_iload_n (i := 2) rfl d2) (Go.step s220 z1)))))))))), z2⟩
      · have q2d : cDec .ge (fr (1024 * F + R)) hr = true := decide_eq_true (Int32.le_iff_toInt_le.mpr (by omega))
        obtain ⟨ls9, h9', z1, z2⟩ := next h hG hJ Fr.rf ⟨kT, ft, fr, k2, k3, k4⟩
        exact ⟨ls9, h9', pre _ (Go.step (o_iload rfl l28) (Go.step (o_if_f (t := 223) rfl rfl q1d) (Go.step (o_iload rfl l28) (Go.step (o_iload_n (i := 2) rfl d2) (Go.step (o_ic_t (t := 223) rfl rfl q2d) z1))))), z2⟩
    · have q1d : cDec .le (fr (1024 * F + R)) 0 = true := decide_eq_true (Int32.le_iff_toInt_le.mpr (by omega))
      obtain ⟨ls9, h9', z1, z2⟩ := next h hG hJ Fr.rf ⟨kT, ft, fr, k2, k3, k4⟩
      exact ⟨ls9, h9', pre _ (Go.step (o_iload rfl l28) (Go.step (o_if_t (t := 223) rfl rfl q1d) z1)), z2⟩
