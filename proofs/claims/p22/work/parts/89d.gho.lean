/-! GHOSTS, 4: fails, makes, opens, isInside -/
theorem HG_mf {h : List cC} (hG : HG TT [] h) {j : Nat} {b : eP} (hj : mT j = some (.inl b)) : ∃ x : Int32, fI h 170 j = some x ∧ b.1 ≤ x.toInt ∧ x.toInt ≤ b.2 := by
  obtain ⟨ts, ht⟩ := mod_t
  unfold mT at hj
  rw [ht] at hj
  exact HG_f hG ht hj
theorem arg1 {ρ : List Int} {vs : List cV} (h : okS ρ [.inl [170]] vs) : vs = [cR 170] := by
  obtain ⟨v, us, e1, ⟨k, h1, h2⟩, h3⟩ := okS_cons h
  cases us with
  | nil => rw [e1, h2, List.mem_singleton.mp h1]
  | cons _ _ => exact h3.elim
theorem arg2 {ρ : List Int} {e : aX} {vs : List cV} (h : okS ρ [.inl [170], aI e] vs) : ∃ a : Int32, vs = [cR 170, cI a] ∧ xv ρ e a.toInt := by
  obtain ⟨v, us, e1, ⟨k, h1, h2⟩, h3⟩ := okS_cons h
  obtain ⟨w, ws, e2, ⟨x, h4, h5⟩, h6⟩ := okS_cons h3
  cases ws with
  | nil => exact ⟨x, by rw [e1, h2, e2, h4, List.mem_singleton.mp h1], h5⟩
  | cons _ _ => exact h6.elim
theorem arg3 {ρ : List Int} {e e' : aX} {vs : List cV} (h : okS ρ [.inl [170], aI e, aI e'] vs) : ∃ a b : Int32, vs = [cR 170, cI a, cI b] ∧ xv ρ e a.toInt ∧ xv ρ e' b.toInt := by
  obtain ⟨v, us, e1, ⟨k, h1, h2⟩, h3⟩ := okS_cons h
  obtain ⟨w, ws, e2, ⟨x, h4, h5⟩, h6⟩ := okS_cons h3
  obtain ⟨w', ws', e3, ⟨y, h7, h8⟩, h9⟩ := okS_cons h6
  cases ws' with
  | nil => exact ⟨x, y, by rw [e1, h2, e2, h4, e3, h7, List.mem_singleton.mp h1], h5, h8⟩
  | cons _ _ => exact h9.elim
def znF : aN := (176, [.inl [170], .inr (.inl (.inr (0, 1, 0))), .inr (.inl (.inr (0, 1, 1)))], [], [((-2147483648), 2147483647), ((-2147483648), 2147483647)], [], [(170, 15)], [(some (.inr (.inl (.inl 0))), [], [((-2147483648), 2147483647), ((-2147483648), 2147483647)], [])])
set_option maxRecDepth 1000000 in
theorem zkF : chkM P39 (mkQ P39 znF.2.2.2.2.2.1 [] 3000 0) znF (.inl 1, .inl 0, .inl 0) [] 3000 = true := by decide +kernel
theorem ztF : Con P9 1 znF := con_of J9_ok (d := 0) (n := 0) cs_nil zkF
theorem fa_trm {h : List cC} (hG : HG TT [] h) (hJ : J9 h) (a c : Int32) : ∃ (r : Int32) (h2 : List cC), Trm 1 176 [cR 170, cI a, cI c] h (some (cI r)) h2 ∧ r.toInt = 0 ∧ HG TT [] h2 ∧ Fr PT9 [(170, 15)] h h2 ∧ J9 h2 := by
  obtain ⟨r, h2, t1, t2, t3, t4, o, o1, ρ', o2, o3, o4, o5, o6⟩ := ztF [a.toInt, c.toInt] [cR 170, cI a, cI c] h hG (bcons (in_f32 a) (bcons (in_f32 c) bnil)) (fun q hq => by cases hq) ⟨⟨170, List.mem_singleton.mpr rfl, rfl⟩, vxs rfl, vxs rfl, trivial⟩ (fun q hq => by cases hq) hJ
  have e := List.mem_singleton.mp o1
  subst e
  obtain ⟨x, x1, x2⟩ := ret_c o6
  subst x1
  exact ⟨x, h2, t1, x2, t2, t3, t4⟩
def znM : aN := (215, [.inl [170], .inr (.inl (.inr (0, 1, 1)))], [(170, 18, .inr (.inl (.inr (0, 1, 0))))], [(0, 60), ((-2147483648), 2147483647)], [], [(170, 15), (170, 18)], [(some (.inr (.inl (.inl 0))), [], [(0, 60), ((-2147483648), 2147483647)], []), (some (.inr (.inl (.inl 1))), [(170, 18, .inr (.inl (.inr (1, 1, 0))))], [(0, 60), ((-2147483648), 2147483647)], [])])
set_option maxRecDepth 1000000 in
theorem zkM : chkM P39 (mkQ P39 znM.2.2.2.2.2.1 [] 3000 1) znM (.inl 1, .inl 0, .inl 0) [] 3000 = true := by decide +kernel
theorem ztM : Con P9 2 znM := con_of J9_ok (d := 0) (n := 1) cs_nil zkM
theorem mk_trm {t b op md dp L : Nat} {o : Nat → Int32} {e : Nat} {κ : Int} {s : Nat} {h : List cC} (hG : HG TT [] h) (hJ : J9 h) (hk : KX t b op md dp L o e κ s h) (a : Int32) : ∃ (r : Option cV) (h2 : List cC), Trm 2 215 [cR 170, cI a] h r h2 ∧ HG TT [] h2 ∧ Fr PT9 kWa h h2 ∧ J9 h2 ∧ (retV [] (ghR (some 0)) r ∨ (retV [] (ghR (some 1)) r ∧ KX t b op (md + 1) dp L o e (κ - 5) (s + 1) h2)) := by
  obtain ⟨q1, q2, q3, q4, r5, f, g, gc, cc, k6, k7, k8, k9, k10, p1, p2, p3, p4, p5, p6, p7, p8, p9⟩ := hk
  obtain ⟨vs, m1, m3, m4, m5, m6, m7⟩ := mo_at hG
  obtain ⟨x, x1, x2⟩ := fv_at m1 q3
  obtain ⟨r, h2, t1, t2, t3, t4, o', o1, ρ', o2, o3, o4, o5, o6⟩ := ztM [(md : Int), a.toInt] [cR 170, cI a] h hG (bcons ⟨by show (0 : Int) ≤ _; omega, by show _ ≤ (60 : Int); omega⟩ (bcons (in_f32 a) bnil)) (fun q hq => by cases hq) ⟨⟨170, List.mem_singleton.mpr rfl, rfl⟩, vxs rfl, trivial⟩ (fun q hq => by
    have e := List.mem_singleton.mp hq
    subst e
    exact ⟨12, vs, cI x, m1, x1, x, rfl, (md : Int), rfl, by omega⟩) hJ
  have t3' : Fr PT9 [(170, 15), (170, 18)] h h2 := t3
  refine ⟨r, h2, t1, t2, Fr.tr (W2 := [(170, 15), (170, 18)]) rfl Fr.rf t3', t4, ?_⟩
  rcases List.mem_cons.mp o1 with e | o1
  · subst e
    obtain ⟨y, y1, y2⟩ := ret_c o6
    subst y1
    exact Or.inl ⟨y, rfl, y2⟩
  · have e := List.mem_singleton.mp o1
    subst e
    obtain ⟨y, y1, y2⟩ := ret_c o6
    subst y1
    refine Or.inr ⟨⟨y, rfl, y2⟩, ?_⟩
    obtain ⟨ci, us, v, u1, u2, z, u3, w, u4, u5⟩ := o5 _ (List.mem_singleton.mpr rfl)
    have hw : w = (md : Int) := by
      have h1 : ρ'[0]? = some (md : Int) := at_mono o2 rfl
      have u4 : ρ'[0]? = some w := u4
      rw [h1] at u4
      cases u4
      rfl
    have hmd : fv h2 18 ((md + 1 : Nat) : Int) := ⟨z, by
      rw [u3] at u2
      exact fI_at u1 u2, by omega⟩
    have hb : md + 1 ≤ 60 := by
      obtain ⟨z', z1, z2, z3⟩ := HG_mf t2 (j := 18) (b := (0, 60)) rfl
      have := fv_det hmd ⟨z', z1, rfl⟩
      have z3 : z'.toInt ≤ 60 := z3
      omega
    exact ⟨fv_keep t3' rfl q1, fv_keep t3' rfl q2, hmd, fv_keep t3' rfl q4, Fr_row t3' rfl r5, f, g, gc, cc, Fr_row t3' rfl k6, Fr_row t3' rfl k7, Fr_row t3' rfl k8, Fr_row t3' rfl k9, k10, p1, hb, p3, p4, p5, p6, by omega, by omega, p9⟩
theorem oB_upd {o : Nat → Int32} {op : Nat} {w : Int32} : oB (upd o op w) op = oB o op := oB_congr (fun k hk => pk_un (by omega))
theorem oOK_upd {o : Nat → Int32} {op : Nat} {w : Int32} (h : oOK o op) (hw : w = 11 ∨ w = 12 ∨ w = 13 ∨ w = 91) : oOK (upd o op w) (op + 1) := fun k hk => by
  by_cases e : k = op
  · subst e
    rw [pk_us]
    exact hw
  · rw [pk_un e]
    exact h k (by omega)
theorem KZ_psh {t b op md dp L : Nat} {o : Nat → Int32} {e : Nat} {κ : Int} {s : Nat} {h : List cC} (hk : KZ t b op md dp L o (e + 1) κ s h) {w : Int32} (hw : w = 12 ∨ w = 13) : KZ t b (op + 1) md dp L (upd o op w) e (κ + 1) s (h.set 180 (.inr (.inl (0, 400, upd o op w)))) := by
  obtain ⟨k5, f, g, gc, cc, k6, k7, k8, k9, k10, p1, p2, p3, p4, p5, p6, p7, p8, p9⟩ := hk
  have e1 : oB (upd o op w) (op + 1) = oB o op + 1 := by
    rw [oB_succ, oB_upd, pk_us, if_pos hw]
  refine ⟨List.getElem?_set_self (List.getElem?_eq_some_iff.mp k5).1, f, g, gc, cc, by rw [List.getElem?_set_ne (by decide)]; exact k6, by rw [List.getElem?_set_ne (by decide)]; exact k7, by rw [List.getElem?_set_ne (by decide)]; exact k8, by rw [List.getElem?_set_ne (by decide)]; exact k9, k10, p1, p2, p3, oOK_upd p4 (by rcases hw with rfl | rfl <;> decide), by omega, by rw [p6, e1]; congr 1; omega, by omega, by omega, p9⟩
theorem KZ_opn {t b op md dp L : Nat} {o : Nat → Int32} {e : Nat} {κ : Int} {s : Nat} {h : List cC} (hk : KZ t b op md dp L o e κ s h) (hdp : dp < 10) {w : Int32} (hw : w = 11 ∨ w = 91) : KZ t b (op + 1) md (dp + 1) L (upd o op w) e (κ + 1) s (h.set 180 (.inr (.inl (0, 400, upd o op w)))) := by
  obtain ⟨k5, f, g, gc, cc, k6, k7, k8, k9, k10, p1, p2, p3, p4, p5, p6, p7, p8, p9⟩ := hk
  have e1 : oB (upd o op w) (op + 1) = oB o op := by
    rw [oB_succ, oB_upd, pk_us, if_neg (by rcases hw with rfl | rfl <;> decide)]
    rfl
  refine ⟨List.getElem?_set_self (List.getElem?_eq_some_iff.mp k5).1, f, g, gc, cc, by rw [List.getElem?_set_ne (by decide)]; exact k6, by rw [List.getElem?_set_ne (by decide)]; exact k7, by rw [List.getElem?_set_ne (by decide)]; exact k8, by rw [List.getElem?_set_ne (by decide)]; exact k9, k10, p1, p2, by omega, oOK_upd p4 (by rcases hw with rfl | rfl <;> decide), by omega, by rw [p6, e1], by omega, by omega, p9⟩
theorem HG_op {h : List cC} {o : Nat → Int32} (hG : HG TT [] h) (hk : h[180]? = some (.inr (.inl (0, 400, o)))) (i : Nat) (x : Int32) : HG TT [] (h.set 180 (.inr (.inl (0, 400, upd o i x)))) := HG_putI (k := 180) (kd := 0) (n := 400) (d := f32) (gs := []) (f := o) (i := i) (x := x) hG rfl hk (in_f32 _) (fun q hq => by cases hq) (fun j => by
  by_cases hj : j = i
  · exact Or.inr ⟨hj, by rw [hj, pk_us]⟩
  · exact Or.inl (pk_un hj))
theorem Fr_op {W : aW} {h0 h : List cC} {o : Nat → Int32} (hf : Fr PT9 W h0 h) (hk : h[180]? = some (.inr (.inl (0, 400, o)))) {f2 : Nat → Int32} (hw : inW W 180 1000 = true) : Fr PT9 W h0 (h.set 180 (.inr (.inl (0, 400, f2)))) := hf.set hk ⟨_, rfl, fun z => inW_ne hw z, pNo_stay rfl _ _⟩
/-- an open one more, or a fault -/
theorem op_trm {t b op md dp L : Nat} {o : Nat → Int32} {e : Nat} {κ : Int} {s : Nat} {h : List cC} (hG : HG TT [] h) (hJ : J9 h) (hk : KX t b op md dp L o e κ s h) (hκ : κ ≤ 90) {w : Int32} (hw : w = 11 ∨ w = 91) : ∃ (r : Option cV) (h2 : List cC), Trm 2 220 [cR 170, cI w] h r h2 ∧ HG TT [] h2 ∧ Fr PT9 kWa h h2 ∧ J9 h2 ∧ (retV [] (ghR (some 0)) r ∨ (retV [] (ghR (some 1)) r ∧ dp + 1 ≤ 10 ∧ KX t b (op + 1) md (dp + 1) L (upd o op w) e (κ + 1) s h2 ∧ ∀ z : Int, fv h 14 z → fv h2 14 z)) := by
  obtain ⟨q1, q2, q3, q4, q5⟩ := hk
  obtain ⟨vs, m1, m3, m4, m5, m6, m7⟩ := mo_at hG
  obtain ⟨x, x1, x2⟩ := fv_at m1 q4
  obtain ⟨y, y1, y2⟩ := fv_at m1 q2
  have r5 := q5.1
  have hb : dp ≤ 10 ∧ op + 1 ≤ 400 := by
    obtain ⟨_, f, g, gc, cc, _, _, _, _, _, p1, p2, p3, p4, p5, p6, p7, p8, p9⟩ := q5
    exact ⟨p3, by omega⟩
  have hcl : classes[12]? = some classes[12] := rfl
  have e10 : ((Int8.ofInt 10).toInt32).toInt = 10 := rfl
  by_cases hd : dp = 10
  · have hdc : cDec .ne x (Int8.ofInt 10).toInt32 = false := by
      have e : x = (Int8.ofInt 10).toInt32 := Int32.toInt_inj.mp (by rw [e10, x2, hd]; rfl)
      rw [e]
      decide
    obtain ⟨n, n1, n2, n3⟩ := HG_mf hG (j := 14) (b := (0, 400)) rfl
    obtain ⟨ci, us, n4, n5⟩ := fI_inv n1
    rw [m1] at n4
    cases n4
    obtain ⟨r, h2, t1, t2, t3, t4, t5⟩ := fa_trm hG hJ (Int32.ofInt 2) n
    have s15 : ∀ ls : List (Nat × cV), cOne (calF (Trm 1)) eM220 none (15, ls, [cI n, cI (Int32.ofInt 2), cR 170], h) = some (18, ls, [cI r], h2) := fun ls => gh_inv (d := 1) (mi := 176) (N := eM176) (pc := 15) (ls := ls) (st := [cI n, cI (Int32.ofInt 2), cR 170]) (r := some (cI r)) rfl rfl rfl rfl rfl (by show recC h 12 [cR 170, cI (Int32.ofInt 2), cI n] = true; unfold recC; dsimp only; rw [m1]; rfl) t1
    have er : r = 0 := Int32.toInt_inj.mp (by rw [t2]; rfl)
    refine ⟨some (cI r), h2, Trm_succ.mpr ⟨eM220, (18, [(0, cR 170), (1, cI w)], [cI r], h2), rfl, Nat.le_of_ble_eq_true rfl, Go.step (o_aload_n (i := 0) rfl rfl) (Go.step (o_get rfl rfl rfl m1 x1) (Go.step (o_step rfl rfl) (Go.step (o_ic_f (t := 19) rfl rfl hdc) (Go.step (o_aload_n (i := 0) rfl rfl) (Go.step (o_step rfl rfl) (Go.step (o_aload_n (i := 0) rfl rfl) (Go.step (o_get rfl rfl rfl m1 n5) (Go.step (s15 _) Go.rf)))))))), by subst er; rfl⟩, t3, Fr.tr (W2 := [(170, 15)]) rfl Fr.rf t4, t5, Or.inl ⟨r, rfl, t2⟩⟩
  · have hdc : cDec .ne x (Int8.ofInt 10).toInt32 = true := decide_eq_true (fun e => by
      have := congrArg Int32.toInt e
      rw [e10] at this
      omega)
    have hx1 : (x + Int32.ofInt 1).toInt = ((dp + 1 : Nat) : Int) := by
      rw [i32_add (by rw [one_i]; omega) (by rw [one_i]; omega), one_i]
      omega
    have hy1 : (y + Int32.ofInt 1).toInt = ((op + 1 : Nat) : Int) := by
      rw [i32_add (by rw [one_i]; omega) (by rw [one_i]; omega), one_i]
      omega
    have hv19 : 19 < vs.length := (List.getElem?_eq_some_iff.mp x1).1
    have hv22 : 22 < vs.length := (List.getElem?_eq_some_iff.mp y1).1
    obtain ⟨i1, i2⟩ := in_B (n := 400) y2 (by omega)
    have gm : ∀ c : cC, (h.set 170 c)[170]? = some c := fun c => List.getElem?_set_self (List.getElem?_eq_some_iff.mp m1).1
    have gv21 : (vs.set 19 (cI (x + Int32.ofInt 1)))[21]? = some (cR 180) := by
      rw [List.getElem?_set_ne (by decide)]
      exact m7
    have gv22 : (vs.set 19 (cI (x + Int32.ofInt 1)))[22]? = some (cI y) := by
      rw [List.getElem?_set_ne (by decide)]
      exact y1
    have gr : (h.set 170 (.inl (12, vs.set 19 (cI (x + Int32.ofInt 1)))))[180]? = some (.inr (.inl (0, 400, o))) := by
      rw [List.getElem?_set_ne (by decide)]
      exact r5
    have hh : ((h.set 170 (.inl (12, vs.set 19 (cI (x + Int32.ofInt 1))))).set 180 (.inr (.inl (0, 400, upd o op w))))[170]? = some (.inl (12, vs.set 19 (cI (x + Int32.ofInt 1)))) := by
      rw [List.getElem?_set_ne (by decide)]
      exact gm _
    have s38 : ∀ (ls : List (Nat × cV)) (st : List cV), cOne (calF (Trm 1)) eM220 none (38, ls, cI w :: cI y :: cR 180 :: st, h.set 170 (.inl (12, vs.set 19 (cI (x + Int32.ofInt 1))))) = some (39, ls, st, (h.set 170 (.inl (12, vs.set 19 (cI (x + Int32.ofInt 1))))).set 180 (.inr (.inl (0, 400, upd o op w)))) := fun ls st => by
      have := o_iast (call := calF (Trm 1)) (M := eM220) (sc := none) (pc := 38) (ls := ls) (st := st) (x := w) rfl gr i1
      rw [i2] at this
      exact this
    refine ⟨some (cI (Int32.ofInt 1)), ((h.set 170 (.inl (12, vs.set 19 (cI (x + Int32.ofInt 1))))).set 180 (.inr (.inl (0, 400, upd o op w)))).set 170 (.inl (12, (vs.set 19 (cI (x + Int32.ofInt 1))).set 22 (cI (y + Int32.ofInt 1)))), Trm_succ.mpr ⟨eM220, (50, [(0, cR 170), (1, cI w)], [cI (Int32.ofInt 1)], _), rfl, Nat.le_of_ble_eq_true rfl, Go.step (o_aload_n (i := 0) rfl rfl) (Go.step (o_get rfl rfl rfl m1 x1) (Go.step (o_step rfl rfl) (Go.step (o_ic_t (t := 19) rfl rfl hdc) (Go.step (o_aload_n (i := 0) rfl rfl) (Go.step (o_step rfl rfl) (Go.step (o_get rfl rfl rfl m1 x1) (Go.step (o_step rfl rfl) (Go.step (o_step rfl rfl) (Go.step (o_put rfl rfl rfl m1 x1 hcl rfl rfl) (Go.step (o_aload_n (i := 0) rfl rfl) (Go.step (o_get rfl rfl rfl (gm _) gv21) (Go.step (o_aload_n (i := 0) rfl rfl) (Go.step (o_get rfl rfl rfl (gm _) gv22) (Go.step (o_iload_n (i := 1) rfl rfl) (Go.step (s38 _ _) (Go.step (o_aload_n (i := 0) rfl rfl) (Go.step (o_step rfl rfl) (Go.step (o_get rfl rfl rfl hh gv22) (Go.step (o_step rfl rfl) (Go.step (o_step rfl rfl) (Go.step (o_put rfl rfl rfl hh gv22 hcl rfl rfl) (Go.step (o_step rfl rfl) Go.rf)))))))))))))))))))))), rfl⟩, ?_, ?_, ?_, Or.inr ⟨⟨Int32.ofInt 1, rfl, rfl⟩, by omega, ⟨?_, ?_, ?_, ?_, ?_⟩, fun z hz => ?_⟩⟩
    · exact HG_mo (HG_op (HG_mo hG m1 (j := 19) (b := (-2147483648, 2147483647)) rfl (in_f32 _)) gr op w) hh (j := 22) (b := (0, 400)) rfl ⟨by show (0 : Int) ≤ _; omega, by show _ ≤ (400 : Int); omega⟩
    · exact Fr_mo (Fr_op (Fr_mo Fr.rf m1 rfl) gr rfl) hh rfl
    · exact J9_mo (J9_op (J9_mo hJ))
    · exact fv_ne hh (by decide) (fv_row (by decide) (fv_ne m1 (by decide) q1))
    · have := fv_eq hh (i := 22) (by rw [List.length_set]; exact hv22) (y + Int32.ofInt 1)
      rw [hy1] at this
      exact this
    · exact fv_ne hh (by decide) (fv_row (by decide) (fv_ne m1 (by decide) q3))
    · have := fv_eq m1 hv19 (x + Int32.ofInt 1)
      rw [hx1] at this
      exact fv_ne hh (by decide) (fv_row (by decide) this)
    · exact KZ_mo (KZ_opn (KZ_mo q5) (by omega) hw)
    · exact fv_ne hh (by decide) (fv_row (by decide) (fv_ne m1 (by decide) hz))
/-- isInside -/
theorem in_loop {h : List cC} {vs : List cV} {o : Nat → Int32} {x : Int32} {op : Nat} (m1 : h[170]? = some (.inl (12, vs))) (m7 : vs[21]? = some (cR 180)) (x1 : vs[22]? = some (cI x)) (x2 : x.toInt = op) (hop : op ≤ 400) (r5 : h[180]? = some (.inr (.inl (0, 400, o)))) : ∀ (n k : Nat) (i : Int32), k + n = op → i.toInt = k → (∀ j : Nat, j < k → o j ≠ 91) → ∃ (r : Int32) (ls : List (Nat × cV)) (pc : Nat), Go (calF (Trm 0)) eM197 none (2, [(1, cI i), (0, cR 170)], [], h) (pc, ls, [cI r], h) ∧ cEnd eM197 (pc, ls, [cI r], h) = some (some (cI r), h) ∧ ((r.toInt = 1 ∧ ∃ j : Nat, j < op ∧ o j = 91) ∨ (r.toInt = 0 ∧ ∀ j : Nat, j < op → o j ≠ 91))
  | 0, k, i, hk, hi, hn => by
    have hd : cDec .ge i x = true := decide_eq_true (Int32.le_iff_toInt_le.mpr (by omega))
    exact ⟨Int32.ofInt 0, [(1, cI i), (0, cR 170)], 30, Go.step (o_iload_n (i := 1) rfl rfl) (Go.step (o_aload_n (i := 0) rfl rfl) (Go.step (o_get rfl rfl rfl m1 x1) (Go.step (o_ic_t (t := 29) rfl rfl hd) (Go.step (o_step rfl rfl) Go.rf)))), rfl, Or.inr ⟨rfl, fun j hj => hn j (by omega)⟩⟩
  | n + 1, k, i, hk, hi, hn => by
    have hd : cDec .ge i x = false := decide_eq_false (fun z => by have := Int32.le_iff_toInt_le.mp z; omega)
    obtain ⟨i1, i2⟩ := in_B (n := 400) hi (by omega)
    have s15 : ∀ (ls : List (Nat × cV)) (st : List cV), cOne (calF (Trm 0)) eM197 none (15, ls, cI i :: cR 180 :: st, h) = some (16, ls, cI (o k) :: st, h) := fun ls st => by
      have := o_iald (call := calF (Trm 0)) (M := eM197) (sc := none) (pc := 15) (ls := ls) (st := st) rfl r5 i1
      rw [i2] at this
      exact this
    have pre : ∀ S : cS, Go (calF (Trm 0)) eM197 none (18, [(1, cI i), (0, cR 170)], [cI (Int8.ofInt 91).toInt32, cI (o k)], h) S → Go (calF (Trm 0)) eM197 none (2, [(1, cI i), (0, cR 170)], [], h) S := fun S hs => Go.step (o_iload_n (i := 1) rfl rfl) (Go.step (o_aload_n (i := 0) rfl rfl) (Go.step (o_get rfl rfl rfl m1 x1) (Go.step (o_ic_f (t := 29) rfl rfl hd) (Go.step (o_aload_n (i := 0) rfl rfl) (Go.step (o_get rfl rfl rfl m1 m7) (Go.step (o_iload_n (i := 1) rfl rfl) (Go.step (s15 _ _) (Go.step (o_step rfl rfl) hs))))))))
    by_cases h9 : o k = 91
    · have hd2 : cDec .ne (o k) (Int8.ofInt 91).toInt32 = false := by rw [h9]; decide
      exact ⟨Int32.ofInt 1, [(1, cI i), (0, cR 170)], 22, pre _ (Go.step (o_ic_f (t := 23) rfl rfl hd2) (Go.step (o_step rfl rfl) Go.rf)), rfl, Or.inl ⟨rfl, k, by omega, h9⟩⟩
    · have hd2 : cDec .ne (o k) (Int8.ofInt 91).toInt32 = true := decide_eq_true h9
      have hi1 : (i + Int32.ofInt 1).toInt = ((k + 1 : Nat) : Int) := by
        rw [i32_add (by rw [one_i]; omega) (by rw [one_i]; omega), one_i]
        omega
      obtain ⟨r, ls, pc, z1, z2⟩ := in_loop m1 m7 x1 x2 hop r5 n (k + 1) (i + Int32.ofInt 1) (by omega) hi1 (fun j hj => by
        by_cases e : j = k
        · rw [e]
          exact h9
        · exact hn j (by omega))
      have s23 : cOne (calF (Trm 0)) eM197 none (23, [(1, cI i), (0, cR 170)], [], h) = some (26, [(1, cI (i + Int32.ofInt 1)), (0, cR 170)], [], h) := o_step (ins := .iinc 1 1) (len := 3) rfl rfl
      exact ⟨r, ls, pc, pre _ (Go.step (o_ic_t (t := 23) rfl rfl hd2) (Go.step s23 (Go.step (o_step rfl rfl) z1))), z2⟩
theorem in_trm {t b op md dp L : Nat} {o : Nat → Int32} {e : Nat} {κ : Int} {s : Nat} {h : List cC} (hG : HG TT [] h) (hκ : κ ≤ 90) (hk : KX t b op md dp L o e κ s h) : ∃ r : Int32, Trm 1 197 [cR 170] h (some (cI r)) h ∧ ((r.toInt = 1 ∧ ∃ j : Nat, j < op ∧ o j = 91) ∨ (r.toInt = 0 ∧ ∀ j : Nat, j < op → o j ≠ 91)) := by
  obtain ⟨q1, q2, q3, q4, r5, f, g, gc, cc, k6, k7, k8, k9, k10, p1, p2, p3, p4, p5, p6, p7, p8, p9⟩ := hk
  obtain ⟨vs, m1, m3, m4, m5, m6, m7⟩ := mo_at hG
  obtain ⟨x, x1, x2⟩ := fv_at m1 q2
  obtain ⟨r, ls, pc, z1, z2, z3⟩ := in_loop m1 m7 x1 x2 (by omega) r5 op 0 (Int32.ofInt 0) (by omega) rfl (fun j hj => by omega)
  exact ⟨r, Trm_succ.mpr ⟨eM197, (pc, ls, [cI r], h), rfl, Nat.le_of_ble_eq_true rfl, Go.step (o_step rfl rfl) (Go.step (o_step rfl rfl) z1), z2⟩, z3⟩
