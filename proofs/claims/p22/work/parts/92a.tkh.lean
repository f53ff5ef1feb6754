/-! A TOWN'S TALKS, 1: numberHere, see, isTalkHere -/
abbrev kN3 : aW := [(170, 14), (170, 15), (170, 16)]
theorem fF2 {h : List cC} (hG : HG TT [] h) : ∃ x y : Int32, okB [x.toInt, y.toInt] [(0, 400), (0, 400)] ∧ okF [x.toInt, y.toInt] [(170, 14, .inr (.inl (.inr (0, 1, 0)))), (170, 1, .inr (.inl (.inr (0, 1, 1))))] h := by
  obtain ⟨x, x1, x2, x3⟩ := HG_mf hG (j := 14) (b := (0, 400)) rfl
  obtain ⟨y, y1, y2, y3⟩ := HG_mf hG (j := 1) (b := (0, 400)) rfl
  obtain ⟨cx, vx, a1, a2⟩ := fI_inv x1
  obtain ⟨cy, vy, b1, b2⟩ := fI_inv y1
  refine ⟨x, y, bcons ⟨x2, x3⟩ (bcons ⟨y2, y3⟩ bnil), fun q hq => ?_⟩
  rcases List.mem_cons.mp hq with e | hq
  · subst e
    exact ⟨cx, vx, cI x, a1, a2, vxs rfl⟩
  · have e := List.mem_singleton.mp hq
    subst e
    exact ⟨cy, vy, cI y, b1, b2, vxs rfl⟩
theorem se9_ok {h : List cC} (hG : HG TT [] h) (hJ : J9 h) : ∃ (r : Int32) (h2 : List cC), Trm 1 232 [cR 170] h (some (cI r)) h2 ∧ HG TT [] h2 ∧ Fr PT9 [(170, 14)] h h2 ∧ J9 h2 := by
  obtain ⟨x, y, hB, hF⟩ := fF2 hG
  obtain ⟨r, h2, t1, t2, t3, t4, o, o1, ρ', o2, o3, o4, o5, o6⟩ := zt156 [x.toInt, y.toInt] [cR 170] h hG hB (fun q hq => by cases hq) ⟨⟨170, List.mem_singleton.mpr rfl, rfl⟩, trivial⟩ hF hJ
  rcases List.mem_cons.mp o1 with e | o1
  · subst e
    obtain ⟨z, z1, _⟩ := ret_c o6
    subst z1
    exact ⟨z, h2, t1, t2, t3, t4⟩
  · have e := List.mem_singleton.mp o1
    subst e
    cases r with
    | none => exact o6.elim
    | some v =>
      obtain ⟨z, z1, _⟩ := o6
      subst z1
      exact ⟨z, h2, t1, t2, t3, t4⟩
theorem nh_ok {h : List cC} (hG : HG TT [] h) (hJ : J9 h) {a b : Int32} (ha : a.toInt = 0) (hb : b.toInt = 9) : ∃ (r : Int32) (h2 : List cC), Trm 3 218 [cR 170, cI a, cI b] h (some (cI r)) h2 ∧ HG TT [] h2 ∧ Fr PT9 kN3 h h2 ∧ J9 h2 ∧ (r = 0 ∨ (r = 1 ∧ ∃ v : Int32, fI h2 170 16 = some v ∧ 0 ≤ v.toInt ∧ v.toInt ≤ 9)) := by
  obtain ⟨x, y, hB, hF⟩ := fF2 hG
  obtain ⟨r, h2, t1, t2, t3, t4, o, o1, ρ', o2, o3, o4, o5, o6⟩ := zt159 [x.toInt, y.toInt] [cR 170, cI a, cI b] h hG hB (fun q hq => by cases hq) ⟨⟨170, List.mem_singleton.mpr rfl, rfl⟩, ⟨a, rfl, ha⟩, ⟨b, rfl, hb⟩, trivial⟩ hF hJ
  rcases List.mem_cons.mp o1 with e | o1
  · subst e
    obtain ⟨z, z1, z2⟩ := ret_c o6
    subst z1
    exact ⟨z, h2, t1, t2, t3, t4, Or.inl ((i32_of z2).trans rfl)⟩
  · have e := List.mem_singleton.mp o1
    subst e
    obtain ⟨z, z1, z2⟩ := ret_c o6
    subst z1
    obtain ⟨v, v1, v2, v3⟩ := HG_mf t2 (j := 16) (b := (-2147483648, 2147483647)) rfl
    obtain ⟨ci, us, w, u1, u2, u3⟩ := o5 _ (List.mem_singleton.mpr rfl)
    obtain ⟨x9, x8, x7⟩ := u3
    subst x8
    have e9 : x9 = v := by
      have := fI_at u1 u2
      rw [v1] at this
      cases this
      rfl
    subst e9
    have b2 := xb_ok o3 x7
    have c1 : 0 + 1 * 0 ≤ x9.toInt := b2.1
    have c2 : x9.toInt ≤ 0 + 1 * 9 := b2.2
    exact ⟨z, h2, t1, t2, t3, t4, Or.inr ⟨(i32_of z2).trans rfl, x9, v1, by omega, by omega⟩⟩
theorem nh9_ok {h : List cC} (hG : HG TT [] h) (hJ : J9 h) {a b : Int32} (ha : a.toInt = 1) (hb : b.toInt = 99) : ∃ (r : Int32) (h2 : List cC), Trm 3 218 [cR 170, cI a, cI b] h (some (cI r)) h2 ∧ HG TT [] h2 ∧ Fr PT9 kN3 h h2 ∧ J9 h2 ∧ (r = 0 ∨ (r = 1 ∧ ∃ v : Int32, fI h2 170 16 = some v ∧ 0 ≤ v.toInt ∧ v.toInt ≤ 99)) := by
  obtain ⟨x, y, hB, hF⟩ := fF2 hG
  obtain ⟨r, h2, t1, t2, t3, t4, o, o1, ρ', o2, o3, o4, o5, o6⟩ := zt162 [x.toInt, y.toInt] [cR 170, cI a, cI b] h hG hB (fun q hq => by cases hq) ⟨⟨170, List.mem_singleton.mpr rfl, rfl⟩, ⟨a, rfl, ha⟩, ⟨b, rfl, hb⟩, trivial⟩ hF hJ
  rcases List.mem_cons.mp o1 with e | o1
  · subst e
    obtain ⟨z, z1, z2⟩ := ret_c o6
    subst z1
    exact ⟨z, h2, t1, t2, t3, t4, Or.inl ((i32_of z2).trans rfl)⟩
  · have e := List.mem_singleton.mp o1
    subst e
    obtain ⟨z, z1, z2⟩ := ret_c o6
    subst z1
    obtain ⟨v, v1, v2, v3⟩ := HG_mf t2 (j := 16) (b := (-2147483648, 2147483647)) rfl
    obtain ⟨ci, us, w, u1, u2, u3⟩ := o5 _ (List.mem_singleton.mpr rfl)
    obtain ⟨x9, x8, x7⟩ := u3
    subst x8
    have e9 : x9 = v := by
      have := fI_at u1 u2
      rw [v1] at this
      cases this
      rfl
    subst e9
    have b2 := xb_ok o3 x7
    have c1 : 0 + 1 * 1 ≤ x9.toInt := b2.1
    have c2 : x9.toInt ≤ 0 + 1 * 99 := b2.2
    exact ⟨z, h2, t1, t2, t3, t4, Or.inr ⟨(i32_of z2).trans rfl, x9, v1, by omega, by omega⟩⟩
/-- the talks that were read: nobody talks to himself -/
def TRq (n : Nat) (q : Nat → Int32) (h : List cC) : Prop := fv h 7 n ∧ n ≤ 30 ∧ h[179]? = some (.inr (.inl (0, 90, q))) ∧ ∀ t : Nat, t < n → q (3 * t) ≠ q (3 * t + 1)
def TRs (h : List cC) : Prop := ∃ (n : Nat) (q : Nat → Int32), TRq n q h
theorem TRq_keep {W : aW} {h h2 : List cC} {n : Nat} {q : Nat → Int32} (hf : Fr PT9 W h h2) (w1 : inW W 170 7 = false) (w2 : inW W 179 1000 = false) (hk : TRq n q h) : TRq n q h2 := ⟨fv_keep hf w1 hk.1, hk.2.1, Fr_row hf w2 hk.2.2.1, hk.2.2.2⟩
theorem TRs_keep {W : aW} {h h2 : List cC} (hf : Fr PT9 W h h2) (w1 : inW W 170 7 = false) (w2 : inW W 179 1000 = false) (hk : TRs h) : TRs h2 := by
  obtain ⟨n, q, k⟩ := hk
  exact ⟨n, q, TRq_keep hf w1 w2 k⟩
theorem HG_179 {h : List cC} {q : Nat → Int32} (hG : HG TT [] h) (hk : h[179]? = some (.inr (.inl (0, 90, q)))) {i : Nat} {x : Int32} (h0 : 0 ≤ x.toInt) (h9 : x.toInt ≤ 99) (hx : x.toInt ≤ 9 ∨ i % 3 = 2) : HG TT [] (h.set 179 (.inr (.inl (0, 90, upd q i x)))) := HG_putI (k := 179) (kd := 0) (n := 90) (d := (0, 99)) (gs := [(0, 3, 30, (0, 9)), (1, 3, 30, (0, 9))]) (f := q) (i := i) (x := x) hG rfl hk ⟨h0, h9⟩ (fun g hg hs => by
    obtain ⟨j, j1, j2⟩ := hs
    rcases List.mem_cons.mp hg with e | hg
    · subst e
      have j2 : i = 0 + 3 * j := j2
      exact ⟨h0, by show x.toInt ≤ (9 : Int); omega⟩
    · have e := List.mem_singleton.mp hg
      subst e
      have j2 : i = 1 + 3 * j := j2
      exact ⟨h0, by show x.toInt ≤ (9 : Int); omega⟩) (fun j => by
    by_cases hj : j = i
    · exact Or.inr ⟨hj, by rw [hj, pk_us]⟩
    · exact Or.inl (pk_un hj))
theorem it_ok {h : List cC} (hG : HG TT [] h) (hJ : J9 h) (hk : TRs h) (at9 : Int32) : ∃ (r : Int32) (h2 : List cC), Trm 5 208 [cR 170, cI at9] h (some (cI r)) h2 ∧ HG TT [] h2 ∧ J9 h2 ∧ TRs h2 ∧ (r = 0 ∨ r = 1) := by
  obtain ⟨n, q, hq⟩ := hk
  have hcl : classes[12]? = some classes[12] := rfl
  obtain ⟨vs, m1, _⟩ := mo_at hG
  obtain ⟨x, x1, x2⟩ := fv_at m1 hq.1
  have n30 := hq.2.1
  have e30 : ((Int8.ofInt 30).toInt32).toInt = 30 := rfl
  have z0 : (0 : Int32).toInt = 0 := rfl
  by_cases c0 : n = 30
  · have hd : cDec .ne x (Int8.ofInt 30).toInt32 = false := decide_eq_false (fun z => z (Int32.toInt_inj.mp (by omega)))
    obtain ⟨r, h2, t1, t0, t2, t3, t4⟩ := fa_trm hG hJ (Int32.ofInt 4) at9
    have er : r = 0 := (i32_of t0).trans rfl
    subst er
    have s12 : cOne (calF (Trm 4)) eM208 none (12, [(0, cR 170), (1, cI at9)], [cI at9, cI (Int32.ofInt 4), cR 170], h) = some (15, [(0, cR 170), (1, cI at9)], [cI 0], h2) := gh_inv (d := 4) (mi := 176) (N := eM176) (pc := 12) (ls := [(0, cR 170), (1, cI at9)]) (st := [cI at9, cI (Int32.ofInt 4), cR 170]) (r := some (cI 0)) rfl rfl rfl rfl rfl (by show recC h 12 [cR 170, cI (Int32.ofInt 4), cI at9] = true; unfold recC; dsimp only; rw [m1]; rfl) (Trm_le (by decide) t1)
    exact ⟨0, h2, Trm_succ.mpr ⟨eM208, (15, [(0, cR 170), (1, cI at9)], [cI 0], h2), rfl, Nat.le_of_ble_eq_true rfl, Go.step (o_aload_n (i := 0) rfl rfl) (Go.step (o_get rfl rfl rfl m1 x1) (Go.step (o_step rfl rfl) (Go.step (o_ic_f (t := 16) rfl rfl hd) (Go.step (o_aload_n (i := 0) rfl rfl) (Go.step (o_step rfl rfl) (Go.step (o_iload_n (i := 1) rfl rfl) (Go.step s12 Go.rf))))))), rfl⟩, t2, t4, ⟨n, q, TRq_keep t3 rfl rfl hq⟩, Or.inl rfl⟩
  have hd : cDec .ne x (Int8.ofInt 30).toInt32 = true := decide_eq_true (fun z => by rw [z] at x2; omega)
  obtain ⟨h1, p1, p2, p3, p4⟩ := pw_ok hG hJ
  have s17 : cOne (calF (Trm 4)) eM208 none (17, [(0, cR 170), (1, cI at9)], [cR 170], h) = some (20, [(0, cR 170), (1, cI at9)], [], h1) := gh_inv (d := 4) (mi := 222) (N := eM222) (pc := 17) (ls := [(0, cR 170), (1, cI at9)]) (st := [cR 170]) (r := none) rfl rfl rfl rfl rfl (by show recC h 12 [cR 170] = true; unfold recC; dsimp only; rw [m1]; rfl) (Trm_le (by decide) p1)
  have hq1 := TRq_keep p3 rfl rfl hq
  obtain ⟨us, u1, _⟩ := mo_at p2
  obtain ⟨y, y1, y2⟩ := fv_at u1 hq1.1
  have e3 : (Int32.ofInt 3).toInt = 3 := rfl
  have d1 : (Int32.ofInt 3 * y).toInt = ((3 * n : Nat) : Int) := by
    rw [i32_mul (by rw [e3]; omega) (by rw [e3]; omega), e3]
    omega
  generalize hD : Int32.ofInt 3 * y = D at d1
  obtain ⟨r2, h2, a1, a2, a3, a4, a5⟩ := nh_ok p2 p4 (a := Int32.ofInt 0) (b := (Int8.ofInt 9).toInt32) rfl rfl
  have s31 : cOne (calF (Trm 4)) eM208 none (31, [(2, cI D), (0, cR 170), (1, cI at9)], [cI (Int8.ofInt 9).toInt32, cI (Int32.ofInt 0), cR 170], h1) = some (34, [(2, cI D), (0, cR 170), (1, cI at9)], [cI r2], h2) := gh_inv (d := 4) (mi := 218) (N := eM218) (pc := 31) (ls := [(2, cI D), (0, cR 170), (1, cI at9)]) (st := [cI (Int8.ofInt 9).toInt32, cI (Int32.ofInt 0), cR 170]) (r := some (cI r2)) rfl rfl rfl rfl rfl (by show recC h1 12 [cR 170, cI (Int32.ofInt 0), cI (Int8.ofInt 9).toInt32] = true; unfold recC; dsimp only; rw [u1]; rfl) (Trm_le (by decide) a1)
  have s25 : cOne (calF (Trm 4)) eM208 none (25, [(0, cR 170), (1, cI at9)], [cI y, cI (Int32.ofInt 3)], h1) = some (26, [(0, cR 170), (1, cI at9)], [cI D], h1) := by
    rw [← hD]
    exact o_step rfl rfl
  have g34 : ∀ S : cS, Go (calF (Trm 4)) eM208 none (34, [(2, cI D), (0, cR 170), (1, cI at9)], [cI r2], h2) S → Go (calF (Trm 4)) eM208 none (0, [(0, cR 170), (1, cI at9)], [], h) S := fun S hs => Go.step (o_aload_n (i := 0) rfl rfl) (Go.step (o_get rfl rfl rfl m1 x1) (Go.step (o_step rfl rfl) (Go.step (o_ic_t (t := 16) rfl rfl hd) (Go.step (o_aload_n (i := 0) rfl rfl) (Go.step s17 (Go.step (o_step rfl rfl) (Go.step (o_aload_n (i := 0) rfl rfl) (Go.step (o_get rfl rfl rfl u1 y1) (Go.step s25 (Go.step (o_step rfl rfl) (Go.step (o_aload_n (i := 0) rfl rfl) (Go.step (o_step rfl rfl) (Go.step (o_step rfl rfl) (Go.step s31 hs))))))))))))))
  have hq2 := TRq_keep a3 rfl rfl hq1
  rcases a5 with e | ⟨e, v, v1, v2, v3⟩
  · subst e
    exact ⟨_, h2, Trm_succ.mpr ⟨eM208, (38, [(2, cI D), (0, cR 170), (1, cI at9)], [cI (Int32.ofInt 0)], h2), rfl, Nat.le_of_ble_eq_true rfl, g34 _ (Go.step (o_if_f (t := 39) rfl rfl rfl) (Go.step (o_step rfl rfl) Go.rf)), rfl⟩, a2, a4, ⟨n, q, hq2⟩, Or.inl rfl⟩
  subst e
  obtain ⟨ws, w1, _⟩ := mo_at a2
  have w13 := mo_j a2 w1 (j := 13) (k := 179) rfl
  obtain ⟨v', v4, v5⟩ := fv_at w1 ⟨v, v1, rfl⟩
  have ev : v' = v := Int32.toInt_inj.mp v5
  subst ev
  obtain ⟨i1, i2⟩ := in_B (n := 90) d1 (by omega)
  have s48 : ∀ (ls : List (Nat × cV)) (st : List cV), cOne (calF (Trm 4)) eM208 none (48, ls, cI v' :: cI D :: cR 179 :: st, h2) = some (49, ls, st, h2.set 179 (.inr (.inl (0, 90, upd q (3 * n) v')))) := fun ls st => by
    have := o_iast (call := calF (Trm 4)) (M := eM208) (sc := none) (pc := 48) (ls := ls) (st := st) (x := v') rfl hq2.2.2.1 i1
    rw [i2] at this
    exact this
  have G3 := HG_179 a2 hq2.2.2.1 (i := 3 * n) (x := v') v2 (by omega) (Or.inl v3)
  have J3 : J9 (h2.set 179 (.inr (.inl (0, 90, upd q (3 * n) v')))) := J9_rw a4 rfl
  have hq3 : TRq n (upd q (3 * n) v') (h2.set 179 (.inr (.inl (0, 90, upd q (3 * n) v')))) := ⟨fv_row (by decide) hq2.1, n30, rw_eq hq2.2.2.1, fun t ht => by
    rw [pk_un (by omega), pk_un (by omega)]
    exact hq2.2.2.2 t ht⟩
  generalize hh3 : h2.set 179 (.inr (.inl (0, 90, upd q (3 * n) v'))) = h3 at s48 G3 J3 hq3
  obtain ⟨r4, h4, b1, b2, b3, b4⟩ := se9_ok G3 J3
  obtain ⟨xs3, o1, _⟩ := mo_at G3
  have s50 : cOne (calF (Trm 4)) eM208 none (50, [(2, cI D), (0, cR 170), (1, cI at9)], [cR 170], h3) = some (53, [(2, cI D), (0, cR 170), (1, cI at9)], [cI r4], h4) := gh_inv (d := 4) (mi := 232) (N := eM232) (pc := 50) (ls := [(2, cI D), (0, cR 170), (1, cI at9)]) (st := [cR 170]) (r := some (cI r4)) rfl rfl rfl rfl rfl (by show recC h3 12 [cR 170] = true; unfold recC; dsimp only; rw [o1]; rfl) (Trm_le (by decide) b1)
  have hq4 := TRq_keep b3 rfl rfl hq3
  obtain ⟨xs4, o2, _⟩ := mo_at b2
  obtain ⟨nx, nx1, _⟩ := HG_mf b2 (j := 14) (b := (0, 400)) rfl
  obtain ⟨nx', nx3, _⟩ := fv_at o2 ⟨nx, nx1, rfl⟩
  obtain ⟨r5, h5, c1, c2, c3, c4, c5⟩ := nh_ok b2 b4 (a := Int32.ofInt 0) (b := (Int8.ofInt 9).toInt32) rfl rfl
  have s63 : cOne (calF (Trm 4)) eM208 none (63, [(3, cI nx'), (2, cI D), (0, cR 170), (1, cI at9)], [cI (Int8.ofInt 9).toInt32, cI (Int32.ofInt 0), cR 170], h4) = some (66, [(3, cI nx'), (2, cI D), (0, cR 170), (1, cI at9)], [cI r5], h5) := gh_inv (d := 4) (mi := 218) (N := eM218) (pc := 63) (ls := [(3, cI nx'), (2, cI D), (0, cR 170), (1, cI at9)]) (st := [cI (Int8.ofInt 9).toInt32, cI (Int32.ofInt 0), cR 170]) (r := some (cI r5)) rfl rfl rfl rfl rfl (by show recC h4 12 [cR 170, cI (Int32.ofInt 0), cI (Int8.ofInt 9).toInt32] = true; unfold recC; dsimp only; rw [o2]; rfl) (Trm_le (by decide) c1)
  have g66 : ∀ S : cS, Go (calF (Trm 4)) eM208 none (66, [(3, cI nx'), (2, cI D), (0, cR 170), (1, cI at9)], [cI r5], h5) S → Go (calF (Trm 4)) eM208 none (0, [(0, cR 170), (1, cI at9)], [], h) S := fun S hs => g34 _ (Go.step (o_if_t (t := 39) rfl rfl rfl) (Go.step (o_aload_n (i := 0) rfl rfl) (Go.step (o_get rfl rfl rfl w1 w13) (Go.step (o_iload_n (i := 2) rfl rfl) (Go.step (o_aload_n (i := 0) rfl rfl) (Go.step (o_get rfl rfl rfl w1 v4) (Go.step (s48 _ _) (Go.step (o_aload_n (i := 0) rfl rfl) (Go.step s50 (Go.step (o_step rfl rfl) (Go.step (o_aload_n (i := 0) rfl rfl) (Go.step (o_get rfl rfl rfl o2 nx3) (Go.step (o_step rfl rfl) (Go.step (o_aload_n (i := 0) rfl rfl) (Go.step (o_step rfl rfl) (Go.step (o_step rfl rfl) (Go.step s63 hs)))))))))))))))))
  have hq5 := TRq_keep c3 rfl rfl hq4
  rcases c5 with e | ⟨e, w, k1, k2, k3⟩
  · subst e
    exact ⟨_, h5, Trm_succ.mpr ⟨eM208, (70, [(3, cI nx'), (2, cI D), (0, cR 170), (1, cI at9)], [cI (Int32.ofInt 0)], h5), rfl, Nat.le_of_ble_eq_true rfl, g66 _ (Go.step (o_if_f (t := 71) rfl rfl rfl) (Go.step (o_step rfl rfl) Go.rf)), rfl⟩, c2, c4, ⟨n, _, hq5⟩, Or.inl rfl⟩
  subst e
  obtain ⟨xs5, o3, _⟩ := mo_at c2
  have o13 := mo_j c2 o3 (j := 13) (k := 179) rfl
  obtain ⟨w', k4, k5⟩ := fv_at o3 ⟨w, k1, rfl⟩
  have ew : w' = w := Int32.toInt_inj.mp k5
  subst ew
  have s80 : ∀ (ls : List (Nat × cV)) (st : List cV), cOne (calF (Trm 4)) eM208 none (80, ls, cI D :: cR 179 :: st, h5) = some (81, ls, cI (upd q (3 * n) v' (3 * n)) :: st, h5) := fun ls st => by
    have := o_iald (call := calF (Trm 4)) (M := eM208) (sc := none) (pc := 80) (ls := ls) (st := st) rfl hq5.2.2.1 i1
    rw [i2] at this
    exact this
  have g81 : ∀ S : cS, Go (calF (Trm 4)) eM208 none (81, [(3, cI nx'), (2, cI D), (0, cR 170), (1, cI at9)], [cI (upd q (3 * n) v' (3 * n)), cI w'], h5) S → Go (calF (Trm 4)) eM208 none (0, [(0, cR 170), (1, cI at9)], [], h) S := fun S hs => g66 _ (Go.step (o_if_t (t := 71) rfl rfl rfl) (Go.step (o_aload_n (i := 0) rfl rfl) (Go.step (o_get rfl rfl rfl o3 k4) (Go.step (o_aload_n (i := 0) rfl rfl) (Go.step (o_get rfl rfl rfl o3 o13) (Go.step (o_iload_n (i := 2) rfl rfl) (Go.step (s80 _ _) hs)))))))
  by_cases cE : w' = upd q (3 * n) v' (3 * n)
  · obtain ⟨r, h6, t1, t0, t2, t3, t4⟩ := fa_trm c2 c4 (Int32.ofInt 1) nx'
    have er : r = 0 := (i32_of t0).trans rfl
    subst er
    have s87 : cOne (calF (Trm 4)) eM208 none (87, [(3, cI nx'), (2, cI D), (0, cR 170), (1, cI at9)], [cI nx', cI (Int32.ofInt 1), cR 170], h5) = some (90, [(3, cI nx'), (2, cI D), (0, cR 170), (1, cI at9)], [cI 0], h6) := gh_inv (d := 4) (mi := 176) (N := eM176) (pc := 87) (ls := [(3, cI nx'), (2, cI D), (0, cR 170), (1, cI at9)]) (st := [cI nx', cI (Int32.ofInt 1), cR 170]) (r := some (cI 0)) rfl rfl rfl rfl rfl (by show recC h5 12 [cR 170, cI (Int32.ofInt 1), cI nx'] = true; unfold recC; dsimp only; rw [o3]; rfl) (Trm_le (by decide) t1)
    exact ⟨0, h6, Trm_succ.mpr ⟨eM208, (90, [(3, cI nx'), (2, cI D), (0, cR 170), (1, cI at9)], [cI 0], h6), rfl, Nat.le_of_ble_eq_true rfl, g81 _ (Go.step (o_ic_f (t := 91) rfl rfl (decide_eq_false (fun z => z cE))) (Go.step (o_aload_n (i := 0) rfl rfl) (Go.step (o_step rfl rfl) (Go.step (o_iload_n (i := 3) rfl rfl) (Go.step s87 Go.rf))))), rfl⟩, t2, t4, ⟨n, _, TRq_keep t3 rfl rfl hq5⟩, Or.inl rfl⟩
  have d2 : (D + Int32.ofInt 1).toInt = ((3 * n + 1 : Nat) : Int) := by
    rw [i32_add (by rw [one_i]; omega) (by rw [one_i]; omega), one_i]
    omega
  obtain ⟨j1, j2⟩ := in_B (n := 90) d2 (by omega)
  have s102 : ∀ (ls : List (Nat × cV)) (st : List cV), cOne (calF (Trm 4)) eM208 none (102, ls, cI w' :: cI (D + Int32.ofInt 1) :: cR 179 :: st, h5) = some (103, ls, st, h5.set 179 (.inr (.inl (0, 90, upd (upd q (3 * n) v') (3 * n + 1) w')))) := fun ls st => by
    have := o_iast (call := calF (Trm 4)) (M := eM208) (sc := none) (pc := 102) (ls := ls) (st := st) (x := w') rfl hq5.2.2.1 j1
    rw [j2] at this
    exact this
  have G6 := HG_179 c2 hq5.2.2.1 (i := 3 * n + 1) (x := w') k2 (by omega) (Or.inl k3)
  have J6 : J9 (h5.set 179 (.inr (.inl (0, 90, upd (upd q (3 * n) v') (3 * n + 1) w')))) := J9_rw c4 rfl
  have hq6 : TRq n (upd (upd q (3 * n) v') (3 * n + 1) w') (h5.set 179 (.inr (.inl (0, 90, upd (upd q (3 * n) v') (3 * n + 1) w')))) := ⟨fv_row (by decide) hq5.1, n30, rw_eq hq5.2.2.1, fun t ht => by
    rw [pk_un (by omega), pk_un (f := upd q (3 * n) v') (by omega)]
    exact hq5.2.2.2 t ht⟩
  generalize hh6 : h5.set 179 (.inr (.inl (0, 90, upd (upd q (3 * n) v') (3 * n + 1) w'))) = h6 at s102 G6 J6 hq6
  obtain ⟨xs6, o4, _⟩ := mo_at G6
  obtain ⟨r7, h7, f1, f2, f3, f4, f5⟩ := nh9_ok G6 J6 (a := Int32.ofInt 1) (b := (Int8.ofInt 99).toInt32) rfl rfl
  have s107 : cOne (calF (Trm 4)) eM208 none (107, [(3, cI nx'), (2, cI D), (0, cR 170), (1, cI at9)], [cI (Int8.ofInt 99).toInt32, cI (Int32.ofInt 1), cR 170], h6) = some (110, [(3, cI nx'), (2, cI D), (0, cR 170), (1, cI at9)], [cI r7], h7) := gh_inv (d := 4) (mi := 218) (N := eM218) (pc := 107) (ls := [(3, cI nx'), (2, cI D), (0, cR 170), (1, cI at9)]) (st := [cI (Int8.ofInt 99).toInt32, cI (Int32.ofInt 1), cR 170]) (r := some (cI r7)) rfl rfl rfl rfl rfl (by show recC h6 12 [cR 170, cI (Int32.ofInt 1), cI (Int8.ofInt 99).toInt32] = true; unfold recC; dsimp only; rw [o4]; rfl) (Trm_le (by decide) f1)
  have g110 : ∀ S : cS, Go (calF (Trm 4)) eM208 none (110, [(3, cI nx'), (2, cI D), (0, cR 170), (1, cI at9)], [cI r7], h7) S → Go (calF (Trm 4)) eM208 none (0, [(0, cR 170), (1, cI at9)], [], h) S := fun S hs => g81 _ (Go.step (o_ic_t (t := 91) rfl rfl (decide_eq_true cE)) (Go.step (o_aload_n (i := 0) rfl rfl) (Go.step (o_get rfl rfl rfl o3 o13) (Go.step (o_iload_n (i := 2) rfl rfl) (Go.step (o_step rfl rfl) (Go.step (o_step rfl rfl) (Go.step (o_aload_n (i := 0) rfl rfl) (Go.step (o_get rfl rfl rfl o3 k4) (Go.step (s102 _ _) (Go.step (o_aload_n (i := 0) rfl rfl) (Go.step (o_step rfl rfl) (Go.step (o_step rfl rfl) (Go.step s107 hs)))))))))))))
  have hq7 := TRq_keep f3 rfl rfl hq6
  rcases f5 with e | ⟨e, y9, l1, l2, l3⟩
  · subst e
    exact ⟨_, h7, Trm_succ.mpr ⟨eM208, (114, [(3, cI nx'), (2, cI D), (0, cR 170), (1, cI at9)], [cI (Int32.ofInt 0)], h7), rfl, Nat.le_of_ble_eq_true rfl, g110 _ (Go.step (o_if_f (t := 115) rfl rfl rfl) (Go.step (o_step rfl rfl) Go.rf)), rfl⟩, f2, f4, ⟨n, _, hq7⟩, Or.inl rfl⟩
  subst e
  obtain ⟨xs7, o5, _⟩ := mo_at f2
  have p13 := mo_j f2 o5 (j := 13) (k := 179) rfl
  obtain ⟨y', l4, l5⟩ := fv_at o5 ⟨y9, l1, rfl⟩
  have ey : y' = y9 := Int32.toInt_inj.mp l5
  subst ey
  have e2 : (Int32.ofInt 2).toInt = 2 := rfl
  have d3 : (D + Int32.ofInt 2).toInt = ((3 * n + 2 : Nat) : Int) := by
    rw [i32_add (by rw [e2]; omega) (by rw [e2]; omega), e2]
    omega
  obtain ⟨k8, k9⟩ := in_B (n := 90) d3 (by omega)
  have s126 : ∀ (ls : List (Nat × cV)) (st : List cV), cOne (calF (Trm 4)) eM208 none (126, ls, cI y' :: cI (D + Int32.ofInt 2) :: cR 179 :: st, h7) = some (127, ls, st, h7.set 179 (.inr (.inl (0, 90, upd (upd (upd q (3 * n) v') (3 * n + 1) w') (3 * n + 2) y')))) := fun ls st => by
    have := o_iast (call := calF (Trm 4)) (M := eM208) (sc := none) (pc := 126) (ls := ls) (st := st) (x := y') rfl hq7.2.2.1 k8
    rw [k9] at this
    exact this
  have G8 := HG_179 f2 hq7.2.2.1 (i := 3 * n + 2) (x := y') l2 l3 (Or.inr (by omega))
  have J8 : J9 (h7.set 179 (.inr (.inl (0, 90, upd (upd (upd q (3 * n) v') (3 * n + 1) w') (3 * n + 2) y')))) := J9_rw f4 rfl
  have r8 : (h7.set 179 (.inr (.inl (0, 90, upd (upd (upd q (3 * n) v') (3 * n + 1) w') (3 * n + 2) y'))))[179]? = some (.inr (.inl (0, 90, upd (upd (upd q (3 * n) v') (3 * n + 1) w') (3 * n + 2) y'))) := rw_eq hq7.2.2.1
  have v7 : fv (h7.set 179 (.inr (.inl (0, 90, upd (upd (upd q (3 * n) v') (3 * n + 1) w') (3 * n + 2) y')))) 7 n := fv_row (by decide) hq7.1
  generalize hh8 : h7.set 179 (.inr (.inl (0, 90, upd (upd (upd q (3 * n) v') (3 * n + 1) w') (3 * n + 2) y'))) = h8 at s126 G8 J8 r8 v7
  obtain ⟨xs8, o6, _⟩ := mo_at G8
  obtain ⟨x9, x8, x7⟩ := fv_at o6 v7
  have l7 : 7 < xs8.length := (List.getElem?_eq_some_iff.mp x8).1
  have hx1 : (x9 + Int32.ofInt 1).toInt = ((n + 1 : Nat) : Int) := by
    rw [i32_add (by rw [one_i]; omega) (by rw [one_i]; omega), one_i]
    omega
  have G9 : HG TT [] (h8.set 170 (.inl (12, xs8.set 7 (cI (x9 + Int32.ofInt 1))))) := HG_mo G8 o6 (j := 7) (b := (0, 30)) rfl ⟨by show (0 : Int) ≤ _; omega, by show _ ≤ (30 : Int); omega⟩
  have v9 := fv_eq o6 l7 (x9 + Int32.ofInt 1)
  rw [hx1] at v9
  refine ⟨_, h8.set 170 (.inl (12, xs8.set 7 (cI (x9 + Int32.ofInt 1)))), Trm_succ.mpr ⟨eM208, (138, [(3, cI nx'), (2, cI D), (0, cR 170), (1, cI at9)], [cI (Int32.ofInt 1)], h8.set 170 (.inl (12, xs8.set 7 (cI (x9 + Int32.ofInt 1))))), rfl, Nat.le_of_ble_eq_true rfl, g110 _ (Go.step (o_if_t (t := 115) rfl rfl rfl) (Go.step (o_aload_n (i := 0) rfl rfl) (Go.step (o_get rfl rfl rfl o5 p13) (Go.step (o_iload_n (i := 2) rfl rfl) (Go.step (o_step rfl rfl) (Go.step (o_step rfl rfl) (Go.step (o_aload_n (i := 0) rfl rfl) (Go.step (o_get rfl rfl rfl o5 l4) (Go.step (s126 _ _) (Go.step (o_aload_n (i := 0) rfl rfl) (Go.step (o_step rfl rfl) (Go.step (o_get rfl rfl rfl o6 x8) (Go.step (o_step rfl rfl) (Go.step (o_step rfl rfl) (Go.step (o_put rfl rfl rfl o6 x8 hcl rfl rfl) (Go.step (o_step rfl rfl) Go.rf)))))))))))))))), rfl⟩, G9, J9_mo J8, ⟨n + 1, _, v9, by omega, rw_ne (by decide) r8, fun t ht => ?_⟩, Or.inr rfl⟩
  by_cases e : t = n
  · subst e
    rw [pk_un (by omega), pk_un (by omega), pk_us, pk_un (by omega), pk_us]
    rw [pk_us] at cE
    exact fun z => cE z.symm
  · rw [pk_un (by omega), pk_un (by omega), pk_un (by omega), pk_un (by omega), pk_un (by omega), pk_un (by omega)]
    exact hq.2.2.2 t (by omega)
