/-! THE LAW'S LOOP, 3: every call of a script (printed by wip/hand/gen85c.py) -/
set_option maxRecDepth 100000
theorem two_of {miX miM n dX dM : Nat} (lX : dX ≤ 60) (lM : dM ≤ 60) {h : List cC} (hX : ∀ as : List Int32, as.length = n → ∃ (r : Int32) (h1 : List cC), Trm dX miX (cR 0 :: as.map (fun x => cI x)) h (some (cI r)) h1 ∧ IV2 h1) (hM : ∀ (h1 : List cC), IV2 h1 → ∀ as : List Int32, as.length = n → ∃ (r : Int32) (h2 : List cC), Trm dM miM (cR 170 :: as.map (fun x => cI x)) h1 (some (cI r)) h2 ∧ IV2 h2) : Two miX miM n h := fun as hl => by
  obtain ⟨r, h1, t1, i1⟩ := hX as hl
  obtain ⟨r2, h2, t2, i2⟩ := hM h1 i1 as hl
  exact ⟨r, r2, h1, h2, Trm_le lX t1, i1.1, Trm_le lM t2, i2⟩
/-- what is still owed of the reference: its law and its way; and who tells whom, where that is written -/
def owM (mi n : Nat) : Prop := ∀ h : List cC, IV2 h → ∀ as : List Int32, as.length = n → ∃ (r : Int32) (h2 : List cC), Trm 60 mi (cR 170 :: as.map (fun x => cI x)) h (some (cI r)) h2 ∧ IV2 h2
def owLaw : Prop := owM 212 0
def owPair : Prop := ∀ h : List cC, IV2 h → ∀ a c d : Int32, ∃ (r : Int32) (h1 h2 : List cC), Trm 60 107 [cR 0, cI a, cI c, cI d] h (some (cI r)) h1 ∧ HG TT [] h1 ∧ Trm 60 174 [cR 170, cI a, cI c, cI d] h1 (some (cI r)) h2 ∧ IV2 h2
def owWay : Prop := owM 254 4 ∧ owM 248 0 ∧ owM 242 3 ∧ owPair
theorem HG_of1 {as : List Int32} (hl : as.length = 1) : ∃ a : Int32, as = [a] := by
  match as, hl with
  | [a], _ => exact ⟨a, rfl⟩
theorem lf33 : fnd (m_il mL) 33 = some (.tableswitch 1620 0 38 #[171, 234, 257, 270, 283, 326, 359, 392, 415, 438, 471, 504, 557, 610, 643, 686, 709, 762, 795, 838, 881, 924, 947, 1000, 1053, 1086, 1119, 1142, 1175, 1218, 1261, 1294, 1347, 1400, 1453, 1476, 1551, 1574, 1597], 171) := by rfl
/-- one call of the script -/
theorem one_call (oL : owLaw) (oW : owWay) {L9 : Nat} {xs9 : Nat → Int32} {ls : List (Nat × cV)} {h : List cC} {i x : Int32} (hi : IV2 h) (hA : At3 ls i L9) (hx : 0 ≤ x.toInt ∧ x.toInt ≤ 63) : ∃ h9 : List cC, Go (calF (Trm 60)) mL (some (L9, xs9)) (33, ls, [cI x], h) (1653, ls, [], h9) ∧ IV2 h9 := by
  have sw9 : ∀ (off : Int) (t : Nat), cSw 1620 0 38 #[171, 234, 257, 270, 283, 326, 359, 392, 415, 438, 471, 504, 557, 610, 643, 686, 709, 762, 795, 838, 881, 924, 947, 1000, 1053, 1086, 1119, 1142, 1175, 1218, 1261, 1294, 1347, 1400, 1453, 1476, 1551, 1574, 1597] x = some off → tgtOf 33 off = some t → cOne (calF (Trm 60)) mL (some (L9, xs9)) (33, ls, [cI x], h) = some (t, ls, [], h) := fun off t h1 h2 => o_step lf33 (by
    show kTsw 1620 0 38 #[171, 234, 257, 270, 283, 326, 359, 392, 415, 438, 471, 504, 557, 610, 643, 686, 709, 762, 795, 838, 881, 924, 947, 1000, 1053, 1086, 1119, 1142, 1175, 1218, 1261, 1294, 1347, 1400, 1453, 1476, 1551, 1574, 1597] 171 33 ls [cI x] h = _
    unfold kTsw
    dsimp only
    rw [h1]
    dsimp only
    rw [h2]
    rfl)
  by_cases hd : 38 < x.toInt
  · refine ⟨h, Go.step (sw9 1620 1653 ?_ rfl) Go.rf, hi⟩
    unfold cSw
    rw [decide_eq_true (Or.inr hd)]
  · have hs : ∀ (k : Nat) (off : Int), x.toInt = (k : Int) → k ≤ 38 → (#[171, 234, 257, 270, 283, 326, 359, 392, 415, 438, 471, 504, 557, 610, 643, 686, 709, 762, 795, 838, 881, 924, 947, 1000, 1053, 1086, 1119, 1142, 1175, 1218, 1261, 1294, 1347, 1400, 1453, 1476, 1551, 1574, 1597] : Array Int)[k]? = some off → cSw 1620 0 38 #[171, 234, 257, 270, 283, 326, 359, 392, 415, 438, 471, 504, 557, 610, 643, 686, 709, 762, 795, 838, 881, 924, 947, 1000, 1053, 1086, 1119, 1142, 1175, 1218, 1261, 1294, 1347, 1400, 1453, 1476, 1551, 1574, 1597] x = some off := fun k off h1 h2 h3 => by
      unfold cSw
      rw [decide_eq_false (by omega)]
      have e : (x.toInt - 0).toNat = k := by omega
      dsimp only
      rw [e]
      exact h3
    have : x.toInt = 0 ∨ x.toInt = 1 ∨ x.toInt = 2 ∨ x.toInt = 3 ∨ x.toInt = 4 ∨ x.toInt = 5 ∨ x.toInt = 6 ∨ x.toInt = 7 ∨ x.toInt = 8 ∨ x.toInt = 9 ∨ x.toInt = 10 ∨ x.toInt = 11 ∨ x.toInt = 12 ∨ x.toInt = 13 ∨ x.toInt = 14 ∨ x.toInt = 15 ∨ x.toInt = 16 ∨ x.toInt = 17 ∨ x.toInt = 18 ∨ x.toInt = 19 ∨ x.toInt = 20 ∨ x.toInt = 21 ∨ x.toInt = 22 ∨ x.toInt = 23 ∨ x.toInt = 24 ∨ x.toInt = 25 ∨ x.toInt = 26 ∨ x.toInt = 27 ∨ x.toInt = 28 ∨ x.toInt = 29 ∨ x.toInt = 30 ∨ x.toInt = 31 ∨ x.toInt = 32 ∨ x.toInt = 33 ∨ x.toInt = 34 ∨ x.toInt = 35 ∨ x.toInt = 36 ∨ x.toInt = 37 ∨ x.toInt = 38 := by omega
    rcases this with e | e | e | e | e | e | e | e | e | e | e | e | e | e | e | e | e | e | e | e | e | e | e | e | e | e | e | e | e | e | e | e | e | e | e | e | e | e | e
    · obtain ⟨h9, g, z⟩ := arm0 (xs9 := xs9) hi hA (two_of (by decide) (by decide) (fun as hl => qu_x0 hi hl) (fun h1 i1 as hl => qu_m0 i1 hl))
      exact ⟨h9, Go.step (sw9 171 204 (hs 0 171 e (by decide) rfl) rfl) g, z⟩
    · obtain ⟨h9, g, z⟩ := arm1 (xs9 := xs9) hi hA (two_of (by decide) (by decide) (fun as hl => qu_x1 hi hl) (fun h1 i1 as hl => qu_m1 i1 hl))
      exact ⟨h9, Go.step (sw9 234 267 (hs 1 234 e (by decide) rfl) rfl) g, z⟩
    · obtain ⟨h9, g, z⟩ := arm2 (xs9 := xs9) hi hA (two_of (by decide) (by decide) (fun as hl => qu_x2 hi hl) (fun h1 i1 as hl => oW.2.1 h1 i1 as hl))
      exact ⟨h9, Go.step (sw9 257 290 (hs 2 257 e (by decide) rfl) rfl) g, z⟩
    · obtain ⟨h9, g, z⟩ := arm3 (xs9 := xs9) hi hA (two_of (by decide) (by decide) (fun as hl => qu_x3 hi hl) (fun h1 i1 as hl => oL h1 i1 as hl))
      exact ⟨h9, Go.step (sw9 270 303 (hs 3 270 e (by decide) rfl) rfl) g, z⟩
    · obtain ⟨h9, g, z⟩ := arm4 (xs9 := xs9) hi hA (two_of (by decide) (by decide) (fun as hl => qu_x4 hi hl) (fun h1 i1 as hl => oW.2.2.1 h1 i1 as hl))
      exact ⟨h9, Go.step (sw9 283 316 (hs 4 283 e (by decide) rfl) rfl) g, z⟩
    · obtain ⟨h9, g, z⟩ := arm5 (xs9 := xs9) hi hA (two_of (by decide) (by decide) (fun as hl => qu_x5 hi hl) (fun h1 i1 as hl => qu_m5 i1 hl))
      exact ⟨h9, Go.step (sw9 326 359 (hs 5 326 e (by decide) rfl) rfl) g, z⟩
    · obtain ⟨h9, g, z⟩ := arm6 (xs9 := xs9) hi hA (two_of (by decide) (by decide) (fun as hl => qu_x6 hi hl) (fun h1 i1 as hl => qu_m6 i1 hl))
      exact ⟨h9, Go.step (sw9 359 392 (hs 6 359 e (by decide) rfl) rfl) g, z⟩
    · obtain ⟨h9, g, z⟩ := arm7 (xs9 := xs9) hi hA (two_of (by decide) (by decide) (fun as hl => qu_x7 hi hl) (fun h1 i1 as hl => qu_m7 i1 hl))
      exact ⟨h9, Go.step (sw9 392 425 (hs 7 392 e (by decide) rfl) rfl) g, z⟩
    · obtain ⟨h9, g, z⟩ := arm8 (xs9 := xs9) hi hA (two_of (by decide) (by decide) (fun as hl => qu_x8 hi hl) (fun h1 i1 as hl => qu_m8 i1 hl))
      exact ⟨h9, Go.step (sw9 415 448 (hs 8 415 e (by decide) rfl) rfl) g, z⟩
    · obtain ⟨h9, g, z⟩ := arm9 (xs9 := xs9) hi hA (two_of (by decide) (by decide) (fun as hl => qu_x9 hi hl) (fun h1 i1 as hl => qu_m9 i1 hl))
      exact ⟨h9, Go.step (sw9 438 471 (hs 9 438 e (by decide) rfl) rfl) g, z⟩
    · obtain ⟨h9, g, z⟩ := arm10 (xs9 := xs9) hi hA (two_of (by decide) (by decide) (fun as hl => qu_x10 hi hl) (fun h1 i1 as hl => qu_m10 i1 hl))
      exact ⟨h9, Go.step (sw9 471 504 (hs 10 471 e (by decide) rfl) rfl) g, z⟩
    · obtain ⟨h9, g, z⟩ := arm11 (xs9 := xs9) hi hA (two_of (by decide) (by decide) (fun as hl => qu_x11 hi hl) (fun h1 i1 as hl => qu_m11 i1 hl))
      exact ⟨h9, Go.step (sw9 504 537 (hs 11 504 e (by decide) rfl) rfl) g, z⟩
    · obtain ⟨h9, g, z⟩ := arm12 (xs9 := xs9) hi hA (two_of (by decide) (by decide) (fun as hl => qu_x12 hi hl) (fun h1 i1 as hl => qu_m12 i1 hl))
      exact ⟨h9, Go.step (sw9 557 590 (hs 12 557 e (by decide) rfl) rfl) g, z⟩
    · obtain ⟨h9, g, z⟩ := arm13 (xs9 := xs9) hi hA (two_of (by decide) (by decide) (fun as hl => qu_x13 hi hl) (fun h1 i1 as hl => qu_m13 i1 hl))
      exact ⟨h9, Go.step (sw9 610 643 (hs 13 610 e (by decide) rfl) rfl) g, z⟩
    · obtain ⟨h9, g, z⟩ := arm14 (xs9 := xs9) hi hA (two_of (by decide) (by decide) (fun as hl => qu_x14 hi hl) (fun h1 i1 as hl => qu_m14 i1 hl))
      exact ⟨h9, Go.step (sw9 643 676 (hs 14 643 e (by decide) rfl) rfl) g, z⟩
    · obtain ⟨h9, g, z⟩ := arm15 (xs9 := xs9) hi hA (two_of (by decide) (by decide) (fun as hl => qu_x15 hi hl) (fun h1 i1 as hl => qu_m15 i1 hl))
      exact ⟨h9, Go.step (sw9 686 719 (hs 15 686 e (by decide) rfl) rfl) g, z⟩
    · obtain ⟨h9, g, z⟩ := arm16 (xs9 := xs9) hi hA (two_of (by decide) (by decide) (fun as hl => qu_x16 hi hl) (fun h1 i1 as hl => qu_m16 i1 hl))
      exact ⟨h9, Go.step (sw9 709 742 (hs 16 709 e (by decide) rfl) rfl) g, z⟩
    · obtain ⟨h9, g, z⟩ := arm17 (xs9 := xs9) hi hA (two_of (by decide) (by decide) (fun as hl => qu_x17 hi hl) (fun h1 i1 as hl => qu_m17 i1 hl))
      exact ⟨h9, Go.step (sw9 762 795 (hs 17 762 e (by decide) rfl) rfl) g, z⟩
    · obtain ⟨h9, g, z⟩ := arm18 (xs9 := xs9) hi hA (two_of (by decide) (by decide) (fun as hl => qu_x18 hi hl) (fun h1 i1 as hl => qu_m18 i1 hl))
      exact ⟨h9, Go.step (sw9 795 828 (hs 18 795 e (by decide) rfl) rfl) g, z⟩
    · obtain ⟨h9, g, z⟩ := arm19 (xs9 := xs9) hi hA (two_of (by decide) (by decide) (fun as hl => qu_x19 hi hl) (fun h1 i1 as hl => qu_m19 i1 hl))
      exact ⟨h9, Go.step (sw9 838 871 (hs 19 838 e (by decide) rfl) rfl) g, z⟩
    · obtain ⟨h9, g, z⟩ := arm20 (xs9 := xs9) hi hA (oW.2.2.2 h hi)
      exact ⟨h9, Go.step (sw9 881 914 (hs 20 881 e (by decide) rfl) rfl) g, z⟩
    · obtain ⟨h9, g, z⟩ := arm21 (xs9 := xs9) hi hA (two_of (by decide) (by decide) (fun as hl => qu_x21 hi hl) (fun h1 i1 as hl => qu_m21 i1 hl))
      exact ⟨h9, Go.step (sw9 924 957 (hs 21 924 e (by decide) rfl) rfl) g, z⟩
    · obtain ⟨h9, g, z⟩ := arm22 (xs9 := xs9) hi hA (two_of (by decide) (by decide) (fun as hl => qu_x22 hi hl) (fun h1 i1 as hl => qu_m22 i1 hl))
      exact ⟨h9, Go.step (sw9 947 980 (hs 22 947 e (by decide) rfl) rfl) g, z⟩
    · obtain ⟨h9, g, z⟩ := arm23 (xs9 := xs9) hi hA (two_of (by decide) (by decide) (fun as hl => qu_x23 hi hl) (fun h1 i1 as hl => qu_m23 i1 hl))
      exact ⟨h9, Go.step (sw9 1000 1033 (hs 23 1000 e (by decide) rfl) rfl) g, z⟩
    · obtain ⟨h9, g, z⟩ := arm24 (xs9 := xs9) hi hA (two_of (by decide) (by decide) (fun as hl => qu_x24 hi hl) (fun h1 i1 as hl => qu_m24 i1 hl))
      exact ⟨h9, Go.step (sw9 1053 1086 (hs 24 1053 e (by decide) rfl) rfl) g, z⟩
    · obtain ⟨h9, g, z⟩ := arm25 (xs9 := xs9) hi hA (two_of (by decide) (by decide) (fun as hl => qu_x25 hi hl) (fun h1 i1 as hl => qu_m25 i1 hl))
      exact ⟨h9, Go.step (sw9 1086 1119 (hs 25 1086 e (by decide) rfl) rfl) g, z⟩
    · obtain ⟨h9, g, z⟩ := arm26 (xs9 := xs9) hi hA (two_of (by decide) (by decide) (fun as hl => qu_x26 hi hl) (fun h1 i1 as hl => qu_m26 i1 hl))
      exact ⟨h9, Go.step (sw9 1119 1152 (hs 26 1119 e (by decide) rfl) rfl) g, z⟩
    · obtain ⟨h9, g, z⟩ := arm27 (xs9 := xs9) hi hA (two_of (by decide) (by decide) (fun as hl => qu_x27 hi hl) (fun h1 i1 as hl => qu_m27 i1 hl))
      exact ⟨h9, Go.step (sw9 1142 1175 (hs 27 1142 e (by decide) rfl) rfl) g, z⟩
    · obtain ⟨h9, g, z⟩ := arm28 (xs9 := xs9) hi hA (two_of (by decide) (by decide) (fun as hl => qu_x28 hi hl) (fun h1 i1 as hl => qu_m28 i1 hl))
      exact ⟨h9, Go.step (sw9 1175 1208 (hs 28 1175 e (by decide) rfl) rfl) g, z⟩
    · obtain ⟨h9, g, z⟩ := arm29 (xs9 := xs9) hi hA (two_of (by decide) (by decide) (fun as hl => qu_x29 hi hl) (fun h1 i1 as hl => qu_m29 i1 hl))
      exact ⟨h9, Go.step (sw9 1218 1251 (hs 29 1218 e (by decide) rfl) rfl) g, z⟩
    · obtain ⟨h9, g, z⟩ := arm30 (xs9 := xs9) hi hA (two_of (by decide) (by decide) (fun as hl => qu_x30 hi hl) (fun h1 i1 as hl => qu_m30 i1 hl))
      exact ⟨h9, Go.step (sw9 1261 1294 (hs 30 1261 e (by decide) rfl) rfl) g, z⟩
    · obtain ⟨h9, g, z⟩ := arm31 (xs9 := xs9) hi hA (two_of (by decide) (by decide) (fun as hl => qu_x31 hi hl) (fun h1 i1 as hl => oW.1 h1 i1 as hl))
      exact ⟨h9, Go.step (sw9 1294 1327 (hs 31 1294 e (by decide) rfl) rfl) g, z⟩
    · obtain ⟨h9, g, z⟩ := arm32 (xs9 := xs9) hi hA (two_of (by decide) (by decide) (fun as hl => qu_x32 hi hl) (fun h1 i1 as hl => qu_m32 i1 hl))
      exact ⟨h9, Go.step (sw9 1347 1380 (hs 32 1347 e (by decide) rfl) rfl) g, z⟩
    · obtain ⟨h9, g, z⟩ := arm33 (xs9 := xs9) hi hA (two_of (by decide) (by decide) (fun as hl => qu_x33 hi hl) (fun h1 i1 as hl => qu_m33 i1 hl))
      exact ⟨h9, Go.step (sw9 1400 1433 (hs 33 1400 e (by decide) rfl) rfl) g, z⟩
    · obtain ⟨h9, g, z⟩ := arm34 (xs9 := xs9) hi hA (two_of (by decide) (by decide) (fun as hl => qu_x34 hi hl) (fun h1 i1 as hl => qu_m34 i1 hl))
      exact ⟨h9, Go.step (sw9 1453 1486 (hs 34 1453 e (by decide) rfl) rfl) g, z⟩
    · obtain ⟨h9, g, z⟩ := arm35 (xs9 := xs9) hi hA (two_of (by decide) (by decide) (fun as hl => qu_x35 hi hl) (fun h1 i1 as hl => qu_m35 i1 hl))
      exact ⟨h9, Go.step (sw9 1476 1509 (hs 35 1476 e (by decide) rfl) rfl) g, z⟩
    · obtain ⟨h9, g, z⟩ := arm36 (xs9 := xs9) hi hA (two_of (by decide) (by decide) (fun as hl => qu_x36 hi hl) (fun h1 i1 as hl => qu_m36 i1 hl))
      exact ⟨h9, Go.step (sw9 1551 1584 (hs 36 1551 e (by decide) rfl) rfl) g, z⟩
    · obtain ⟨h9, g, z⟩ := arm37 (xs9 := xs9) hi hA (fun as hl => by
        obtain ⟨a, e2⟩ := HG_of1 hl
        subst e2
        obtain ⟨r, r2, h1, h2, t1, g1, n, t2, z⟩ := image_pair hi.2.1 a
        exact ⟨r, r2, h1, h2, Trm_le (by decide) t1, g1, Trm_le (by decide) t2, z.1, z, n hi.2.2⟩)
      exact ⟨h9, Go.step (sw9 1574 1607 (hs 37 1574 e (by decide) rfl) rfl) g, z⟩
    · obtain ⟨h9, g, z⟩ := arm38 (xs9 := xs9) hi hA (fun as hl => by
        obtain ⟨a, e2⟩ := HG_of1 hl
        subst e2
        obtain ⟨r, r2, h1, h2, t1, g1, n, t2, z⟩ := back_pair hi.2.1 a
        exact ⟨r, r2, h1, h2, Trm_le (by decide) t1, g1, Trm_le (by decide) t2, z.1, z, n hi.2.2⟩)
      exact ⟨h9, Go.step (sw9 1597 1630 (hs 38 1597 e (by decide) rfl) rfl) g, z⟩
theorem ofN {L9 : Nat} (hL : L9 ≤ 3584) : (Int32.ofNat L9).toInt = (L9 : Int) := ofInt_in (n := ((L9 : Nat) : Int)) (by omega) (by omega)
/-- the whole loop -/
theorem law_loop (oL : owLaw) (oW : owWay) {L9 : Nat} (hL : L9 ≤ 3584) {xs9 : Nat → Int32} : ∀ (n : Nat) (i : Int32) (ls : List (Nat × cV)) (h : List cC), IV2 h → clk ls 0 = some (cO 0) → clk ls 1 = some (cR 0) → clk ls 2 = some (cR 170) → clk ls 3 = some (cI i) → 0 ≤ i.toInt → i.toInt ≤ 3584 + 7 → (L9 : Int) - i.toInt ≤ (n : Int) → ∃ (ls2 : List (Nat × cV)) (h2 : List cC), Go (calF (Trm 60)) mL (some (L9, xs9)) (18, ls, [], h) (1660, ls2, [cI (Int32.ofInt 1)], h2)
  | n, i, ls, h, hi, c0, c1, c2, c3, i0, i1, hn => by
    have e7 : ((Int8.ofInt 7).toInt32).toInt = 7 := rfl
    have hN := ofN hL
    have m1 : (Int32.ofNat L9 - (Int8.ofInt 7).toInt32).toInt = (L9 : Int) - 7 := by
      rw [Int32.toInt_sub, hN, e7]
      exact bmod32 (by omega) (by omega)
    have slen : cOne (calF (Trm 60)) mL (some (L9, xs9)) (20, ls, [cO 0, cI i], h) = some (21, ls, [cI (Int32.ofNat L9), cI i], h) := o_step lf20 rfl
    have pre : ∀ S : cS, Go (calF (Trm 60)) mL (some (L9, xs9)) (24, ls, [cI (Int32.ofNat L9 - (Int8.ofInt 7).toInt32), cI i], h) S → Go (calF (Trm 60)) mL (some (L9, xs9)) (18, ls, [], h) S := fun S hs => Go.step (o_iload_n (i := 3) lf18 c3) (Go.step (o_aloadO (i := 0) lf19 c0) (Go.step slen (Go.step (o_step lf21 rfl) (Go.step (o_step lf23 rfl) hs))))
    by_cases hc : (L9 : Int) - 7 < i.toInt
    · refine ⟨ls, h, pre _ (Go.step (o_step lf24 (?_ : cStep (calF (Trm 60)) mL (some (L9, xs9)) (.if_icmp .gt 1635) 3 24 ls [cI (Int32.ofNat L9 - (Int8.ofInt 7).toInt32), cI i] h = some (1659, ls, [], h))) (Go.step (o_step lf1659 rfl) Go.rf))⟩
      show kIc .gt 1635 3 24 ls [cI (Int32.ofNat L9 - (Int8.ofInt 7).toInt32), cI i] h = _
      unfold kIc
      have hd : cDec .gt i (Int32.ofNat L9 - (Int8.ofInt 7).toInt32) = true := decide_eq_true (Int32.lt_iff_toInt_lt.mpr (by rw [m1]; exact hc))
      dsimp only
      rw [hd]
      rfl
    · have s24 : cOne (calF (Trm 60)) mL (some (L9, xs9)) (24, ls, [cI (Int32.ofNat L9 - (Int8.ofInt 7).toInt32), cI i], h) = some (27, ls, [], h) := o_step lf24 (by
        show kIc .gt 1635 3 24 ls [cI (Int32.ofNat L9 - (Int8.ofInt 7).toInt32), cI i] h = _
        unfold kIc
        have hd : cDec .gt i (Int32.ofNat L9 - (Int8.ofInt 7).toInt32) = false := decide_eq_false (fun z => by have := Int32.lt_iff_toInt_lt.mp z; rw [m1] at this; omega)
        dsimp only
        rw [hd]
        rfl)
      have in0 : inB i L9 = true := decide_eq_true (show vp_in i L9 from vp_in_iff.mpr ⟨i0, by omega⟩)
      have addk : ∀ k : Int, 1 ≤ k → k ≤ 7 → (i + Int32.ofInt k).toInt = i.toInt + k := fun k k1 k2 => by
        rw [Int32.toInt_add, ofInt_in (by omega) (by omega)]
        exact bmod32 (by omega) (by omega)
      have hA : At3 ls i L9 := ⟨c0, c1, c2, c3, fun k k1 k2 => decide_eq_true (show vp_in _ L9 from vp_in_iff.mpr (by rw [addk k k1 (by omega)]; omega)), decide_eq_true (show vp_in _ L9 from vp_in_iff.mpr (by
        have e : (i + (Int8.ofInt 6).toInt32).toInt = i.toInt + 6 := addk 6 (by decide) (by decide)
        rw [e]
        omega))⟩
      have hx : 0 ≤ (xs9 i.toNatClampNeg &&& (Int8.ofInt 63).toInt32).toInt ∧ (xs9 i.toNatClampNeg &&& (Int8.ofInt 63).toInt32).toInt ≤ 63 := and_r (y := (Int8.ofInt 63).toInt32) (by decide)
      obtain ⟨h9, g, z⟩ := one_call oL oW (xs9 := xs9) hi hA hx
      have sinc : cOne (calF (Trm 60)) mL (some (L9, xs9)) (1653, ls, [], h9) = some (1656, (3, cI (i + Int32.ofInt 7)) :: ls.filter (ckI 3), [], h9) := o_step lf1653 (by
        show kInc _ 3 7 3 1653 ls [] h9 = _
        unfold kInc
        rw [c3]
        rfl)
      have sgo : cOne (calF (Trm 60)) mL (some (L9, xs9)) (1656, (3, cI (i + Int32.ofInt 7)) :: ls.filter (ckI 3), [], h9) = some (18, (3, cI (i + Int32.ofInt 7)) :: ls.filter (ckI 3), [], h9) := o_step lf1656 rfl
      have e7' := addk 7 (by decide) (by decide)
      match n, hn with
      | 0, hn => omega
      | n + 1, hn =>
        obtain ⟨ls2, h2, w⟩ := law_loop oL oW hL (xs9 := xs9) n (i + Int32.ofInt 7) ((3, cI (i + Int32.ofInt 7)) :: ls.filter (ckI 3)) h9 z (clk_st rfl rfl rfl c0) (clk_st rfl rfl rfl c1) (clk_st rfl rfl rfl c2) clk_hd (by omega) (by omega) (by omega)
        exact ⟨ls2, h2, pre _ (Go.step s24 (Go.step (o_aloadO (i := 0) lf27 c0) (Go.step (o_iload_n (i := 3) lf28 c3) (Go.step (o_sld lf29 in0) (Go.step (o_step lf30 rfl) (Go.step (o_step lf32 rfl) (Go.trans g (Go.step sinc (Go.step sgo w)))))))))⟩
