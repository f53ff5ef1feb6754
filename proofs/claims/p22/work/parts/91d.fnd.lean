/-! THE WAY, 15: finds -/
theorem an_b : (List.range 1024).all (fun x => (List.range 10).all (fun k => (Int32.ofNat x &&& ((Int32.ofInt 1 <<< (Int32.ofNat k &&& 31)) ^^^ Int32.ofInt (-1))) == Int32.ofNat (x &&& (1023 ^^^ (1 <<< k))) && (Nat.blt (x &&& (1023 ^^^ (1 <<< k))) 1024 && (List.range 10).all (fun j => bOf (x &&& (1023 ^^^ (1 <<< k))) j == (bOf x j && !(Nat.beq j k)))))) = true := by decide +kernel
theorem an_k {x k : Nat} (hx : x < 1024) (hk : k < 10) : (Int32.ofNat x &&& ((Int32.ofInt 1 <<< (Int32.ofNat k &&& 31)) ^^^ Int32.ofInt (-1))) = Int32.ofNat (x &&& (1023 ^^^ (1 <<< k))) ∧ x &&& (1023 ^^^ (1 <<< k)) < 1024 ∧ ∀ j : Nat, j < 10 → bOf (x &&& (1023 ^^^ (1 <<< k))) j = (bOf x j && !(Nat.beq j k)) := by
  have h1 := and_inv (List.all_eq_true.mp (List.all_eq_true.mp an_b x (List.mem_range.mpr hx)) k (List.mem_range.mpr hk))
  have h2 := and_inv h1.2
  exact ⟨eq_of_beq h1.1, Nat.le_of_ble_eq_true h2.1, fun j hj => eq_of_beq (List.all_eq_true.mp h2.2 j (List.mem_range.mpr hj))⟩
theorem bOf_zero (x : Nat) : bOf 0 x = false := by
  unfold bOf
  rw [Nat.zero_shiftRight]
  rfl
def FL (ls : List (Nat × cV)) (p r n k u : Int32) : Prop := clk ls 0 = some (cR 170) ∧ clk ls 1 = some (cI p) ∧ clk ls 2 = some (cI r) ∧ clk ls 3 = some (cI n) ∧ clk ls 4 = some (cI k) ∧ clk ls 5 = some (cI u)
theorem FL_6 {ls : List (Nat × cV)} {p r n k u : Int32} (h : FL ls p r n k u) (v : cV) : FL ((6, v) :: ls.filter (ckI 6)) p r n k u := by
  obtain ⟨h0, h1, h2, h3, h4, h5⟩ := h
  exact ⟨clk_st rfl rfl rfl h0, clk_st rfl rfl rfl h1, clk_st rfl rfl rfl h2, clk_st rfl rfl rfl h3, clk_st rfl rfl rfl h4, clk_st rfl rfl rfl h5⟩
theorem FL_5 {ls : List (Nat × cV)} {p r n k u : Int32} (h : FL ls p r n k u) (v : Int32) : FL ((5, cI v) :: ls.filter (ckI 5)) p r n k v := by
  obtain ⟨h0, h1, h2, h3, h4, _⟩ := h
  exact ⟨clk_st rfl rfl rfl h0, clk_st rfl rfl rfl h1, clk_st rfl rfl rfl h2, clk_st rfl rfl rfl h3, clk_st rfl rfl rfl h4, clk_hd⟩
theorem FL_4 {ls : List (Nat × cV)} {p r n k u : Int32} (h : FL ls p r n k u) (v : Int32) : FL ((4, cI v) :: ls.filter (ckI 4)) p r n v u := by
  obtain ⟨h0, h1, h2, h3, _, h5⟩ := h
  exact ⟨clk_st rfl rfl rfl h0, clk_st rfl rfl rfl h1, clk_st rfl rfl rfl h2, clk_st rfl rfl rfl h3, clk_hd, clk_st rfl rfl rfl h5⟩
/-- the heap while the search goes on -/
def FH (fw fm fn f ft fr : Nat → Int32) (fo mn : Nat) (wt : Nat → Int32) (h : List cC) : Prop := HG TT [] h ∧ J9 h ∧ TX fw fm fn f fo mn h ∧ h[196]? = some (.inr (.inl (2, 31, ft))) ∧ h[188]? = some (.inr (.inl (0, 10240, fr))) ∧ h[201]? = some (.inr (.inl (0, 10, wt)))
theorem FH_set {fw fm fn f ft fr : Nat → Int32} {fo mn : Nat} {wt : Nat → Int32} {h : List cC} (hk : FH fw fm fn f ft fr fo mn wt h) {i : Nat} {x : Int32} (h0 : -1 ≤ x.toInt) (h9 : x.toInt ≤ 30) : FH fw fm fn f ft fr fo mn (upd wt i x) (h.set 201 (.inr (.inl (0, 10, upd wt i x)))) := by
  obtain ⟨hG, hJ, ⟨t1, t2, t3, t4, t5, t6, t7⟩, r6, r8, r9⟩ := hk
  exact ⟨HG_rw (d := (-1, 30)) hG rfl r9 ⟨h0, h9⟩, J9_rw hJ rfl, ⟨rw_ne (by decide) t1, rw_ne (by decide) t2, rw_ne (by decide) t3, rw_ne (by decide) t4, fv_row (by decide) t5, fv_row (by decide) t6, t7⟩, rw_ne (by decide) r6, rw_ne (by decide) r8, rw_eq r9⟩
abbrev fiW : aW := [(201, 1000)]
/-- the head of the search: the level k, the talks w that were taken -/
def FP (fw fm fn f ft fr : Nat → Int32) (fo mn R : Nat) (p r : Int32) (h0 : List cC) (k : Nat) (w : Nat → Int) (X : List (Nat × cV) × List cC) : Prop := ∃ (kk u : Int32) (U : Nat) (wt : Nat → Int32), FL X.1 p r (Int32.ofNat (bN R)) kk u ∧ kk.toInt = k ∧ u.toInt = U ∧ FU fw w k U ∧ FH fw fm fn f ft fr fo mn wt X.2 ∧ Fr PT9 fiW h0 X.2 ∧ (∀ i : Nat, i ≤ k → (wt i).toInt = w i) ∧ (∀ i : Nat, i < k → 0 ≤ w i ∧ w i < mn) ∧ (-1 ≤ w k ∧ w k < mn) ∧ (∀ i j : Nat, i < j → j < k → (fw (w i).toNat).toInt ≠ (fw (w j).toNat).toInt)
section
variable {fw fm fn f ft fr : Nat → Int32} {fo mn P R : Nat} {p r : Int32}
def FQ (p r : Int32) (P R : Nat) : Prop := p.toInt = P ∧ P < 10 ∧ r.toInt = R ∧ R < 1024 ∧ bN R ≤ 9
theorem FU_eq {w w2 : Nat → Int} {k U : Nat} (h : FU fw w k U) (he : ∀ i : Nat, i < k → w2 i = w i) : FU fw w2 k U := ⟨h.1, fun x hx => (h.2 x hx).trans ⟨fun ⟨i, hi, e⟩ => ⟨i, hi, by rw [he i hi]; exact e⟩, fun ⟨i, hi, e⟩ => ⟨i, hi, by rw [← he i hi]; exact e⟩⟩⟩
theorem gBx_eq {H : Int} {t : Int} {k : Nat} {w w2 : Nat → Int} (he : ∀ i : Nat, i < k → w i = w2 i) : gBx fw fm fn ft f fo mn P R H t k w ↔ gBx fw fm fn ft f fo mn P R H t k w2 := ⟨fun g => gB_loc _ _ _ _ _ _ _ t k w2 w (fun i hi => (he i hi).symm) g, fun g => gB_loc _ _ _ _ _ _ _ t k w w2 he g⟩
theorem fi_one (hq : FQ p r P R) {ls : List (Nat × cV)} {h : List cC} {wt : Nat → Int32} {w : Nat → Int} {k U T : Nat} {kk u t : Int32} (hL : FL ls p r (Int32.ofNat (bN R)) kk u) (hk : kk.toInt = k) (hkN : k < bN R) (hu : u.toInt = U) (hU : FU fw w k U) (hH : FH fw fm fn f ft fr fo mn wt h) (hwt : ∀ i : Nat, i < k → (wt i).toInt = w i) (hw : ∀ i : Nat, i < k → 0 ≤ w i ∧ w i < mn) (l6 : clk ls 6 = some (cI t)) (ht : t.toInt = T) (hT : T < mn) : ∃ b : Int32, Go (calF (Trm 5)) eM179 none (35, ls, [], h) (56, ls, [cI b], h) ∧ (b ≠ 0 ↔ gBx fw fm fn ft f fo mn P R (fr (1024 * P + R)).toInt (T : Int) k w) := by
  obtain ⟨hp, hP, hr, hR, hN⟩ := hq
  obtain ⟨hG, hJ, hX, r6, r8, r9⟩ := hH
  obtain ⟨c0, c1, c2, c3, c4, c5⟩ := hL
  obtain ⟨vs, m1, _⟩ := mo_at hG
  obtain ⟨x, x1, x2⟩ := fv_at m1 hX.2.2.2.2.1
  obtain ⟨b, b1, b2⟩ := gb_ok (t := t) (k := kk) (u := u) hG hX r6 r8 r9 ht hT hk (by omega) (fun i hi => by rw [hwt i hi]; exact hw i hi) hp hP hr hR hN hu (FU_eq hU hwt)
  have hd : cDec .ge t x = false := decide_eq_false (fun z => by have := Int32.le_iff_toInt_le.mp z; omega)
  have s53 : cOne (calF (Trm 5)) eM179 none (53, ls, [cI r, cI p, cI u, cI kk, cI t, cR 170], h) = some (56, ls, [cI b], h) := gh_inv (d := 5) (mi := 184) (N := eM184) (pc := 53) (ls := ls) (st := [cI r, cI p, cI u, cI kk, cI t, cR 170]) (r := some (cI b)) rfl rfl rfl rfl rfl (by show recC h 12 [cR 170, cI t, cI kk, cI u, cI p, cI r] = true; unfold recC; dsimp only; rw [m1]; rfl) b1
  exact ⟨b, Go.step (o_iload rfl l6) (Go.step (o_aload_n (i := 0) rfl c0) (Go.step (o_get rfl rfl rfl m1 x1) (Go.step (o_ic_f (t := 65) rfl rfl hd) (Go.step (o_aload_n (i := 0) rfl c0) (Go.step (o_iload rfl l6) (Go.step (o_iload rfl c4) (Go.step (o_iload rfl c5) (Go.step (o_iload_n (i := 1) rfl c1) (Go.step (o_iload_n (i := 2) rfl c2) (Go.step s53 Go.rf)))))))))), b2.trans (gBx_eq hwt)⟩
theorem fi_inner (hq : FQ p r P R) {h : List cC} {wt : Nat → Int32} {w : Nat → Int} {k U : Nat} {kk u : Int32} (hk : kk.toInt = k) (hkN : k < bN R) (hu : u.toInt = U) (hU : FU fw w k U) (hH : FH fw fm fn f ft fr fo mn wt h) (hwt : ∀ i : Nat, i < k → (wt i).toInt = w i) (hw : ∀ i : Nat, i < k → 0 ≤ w i ∧ w i < mn) {E : Nat} (hE : E ≤ mn) : ∀ (n T : Nat) (t : Int32) (ls : List (Nat × cV)), T + n = E → t.toInt = T → FL ls p r (Int32.ofNat (bN R)) kk u → clk ls 6 = some (cI t) → (∀ v : Nat, T ≤ v → v < E → ¬ gBx fw fm fn ft f fo mn P R (fr (1024 * P + R)).toInt (v : Int) k w) → ∃ (ls2 : List (Nat × cV)) (t2 : Int32), Go (calF (Trm 5)) eM179 none (35, ls, [], h) (35, ls2, [], h) ∧ FL ls2 p r (Int32.ofNat (bN R)) kk u ∧ clk ls2 6 = some (cI t2) ∧ t2.toInt = E
  | 0, T, t, ls, hT, ht, hL, l6, _ => ⟨ls, t, Go.rf, hL, l6, by omega⟩
  | n + 1, T, t, ls, hT, ht, hL, l6, hno => by
    obtain ⟨b, b1, b2⟩ := fi_one hq hL hk hkN hu hU hH hwt hw l6 ht (by omega)
    have hb : b = 0 := by
      by_cases c : b = 0
      · exact c
      · exact absurd (b2.mp c) (hno T (Nat.le_refl T) (by omega))
    subst hb
    have hmn := hH.2.2.1.2.2.2.2.2.2.1
    have ht1 : (t + Int32.ofInt 1).toInt = ((T + 1 : Nat) : Int) := by
      rw [i32_add (by rw [one_i]; omega) (by rw [one_i]; omega), one_i]
      omega
    obtain ⟨ls2, t2, z1, z2⟩ := fi_inner hq hk hkN hu hU hH hwt hw hE n (T + 1) (t + Int32.ofInt 1) ((6, cI (t + Int32.ofInt 1)) :: ls.filter (ckI 6)) (by omega) ht1 (FL_6 hL _) clk_hd (fun v h1 h2 => hno v (by omega) h2)
    exact ⟨ls2, t2, b1.trans (Go.step (o_if_f (t := 65) rfl rfl (rfl : cDec .ne (0 : Int32) 0 = false)) (Go.step (o_inc rfl rfl l6) (Go.step (o_step rfl rfl) z1))), z2⟩
/-- the beginning of a turn of the search -/
theorem fi_head {ls : List (Nat × cV)} {h : List cC} {wt : Nat → Int32} {w : Nat → Int} {k : Nat} {kk u : Int32} (hN : bN R ≤ 9) (hL : FL ls p r (Int32.ofNat (bN R)) kk u) (hk : kk.toInt = k) (hkN : k < bN R) (hH : FH fw fm fn f ft fr fo mn wt h) (hwk : (wt k).toInt = w k) (hw1 : -1 ≤ w k) (hw2 : w k < mn) : ∃ (ls2 : List (Nat × cV)) (t : Int32), Go (calF (Trm 5)) eM179 none (18, ls, [], h) (35, ls2, [], h) ∧ FL ls2 p r (Int32.ofNat (bN R)) kk u ∧ clk ls2 6 = some (cI t) ∧ t.toInt = w k + 1 := by
  obtain ⟨hG, hJ, hX, r6, r8, r9⟩ := hH
  obtain ⟨c0, c1, c2, c3, c4, c5⟩ := hL
  obtain ⟨vs, m1, _⟩ := mo_at hG
  have m47 := mo_j hG m1 (j := 47) (k := 201) rfl
  have hmn := hX.2.2.2.2.2.2.1
  have en := nat_i (n := bN R) (by omega)
  have hd : cDec .ge kk (Int32.ofNat (bN R)) = false := decide_eq_false (fun z => by have := Int32.le_iff_toInt_le.mp z; omega)
  obtain ⟨i1, i2⟩ := in_B (n := 10) hk (by omega)
  have s30 : ∀ (ls : List (Nat × cV)) (st : List cV), cOne (calF (Trm 5)) eM179 none (30, ls, cI kk :: cR 201 :: st, h) = some (31, ls, cI (wt k) :: st, h) := fun ls st => by
    have := o_iald (call := calF (Trm 5)) (M := eM179) (sc := none) (pc := 30) (ls := ls) (st := st) rfl r9 i1
    rw [i2] at this
    exact this
  exact ⟨(6, cI (wt k + Int32.ofInt 1)) :: ls.filter (ckI 6), wt k + Int32.ofInt 1, Go.step (o_iload rfl c4) (Go.step (o_iload_n (i := 3) rfl c3) (Go.step (o_ic_f (t := 138) rfl rfl hd) (Go.step (o_aload_n (i := 0) rfl c0) (Go.step (o_get rfl rfl rfl m1 m47) (Go.step (o_iload rfl c4) (Go.step (s30 _ _) (Go.step (o_step rfl rfl) (Go.step (o_step rfl rfl) (Go.step (o_ist rfl rfl) Go.rf))))))))), FL_6 ⟨c0, c1, c2, c3, c4, c5⟩ _, clk_hd, by rw [i32_add (by rw [one_i]; omega) (by rw [one_i]; omega), one_i]; omega⟩
end
