/-! GHOSTS, 10: closes (printed by wip/hand/gen89j.py) -/
def N39 (h : List cC) : Prop := ∃ z : Int, fv h 14 z ∧ 0 ≤ z ∧ z ≤ 399
def zJ (t b m : Nat) (κ : Int) (s : Nat) : Nat → List cC → Prop
  | 1 => KS t b m 1 κ s
  | 2 => fun h => ∃ (op md dp L : Nat) (o : Nat → Int32), m ≤ md ∧ KX t b op md dp L o 1 κ s h ∧ (∃ j : Nat, j < op ∧ o j = 91) ∧ N39 h
  | 3 => fun h => ∃ (op md dp L : Nat) (o : Nat → Int32), m ≤ md ∧ KX t b (op + 1) md dp L o 1 κ s h ∧ o op = 91 ∧ N39 h
  | _ => fun _ => True
theorem zJ_fr {t b m : Nat} {κ : Int} {s : Nat} (h h2 : List cC) (hG : HG TT [] h) (hf : Fr PT9 kSg h h2) (hk : zJ t b m κ s 1 h) : zJ t b m κ s 1 h2 := KS_kS hf hk
theorem zJ_e {t b m : Nat} {κ : Int} {s : Nat} (h h2 : List cC) (hG : HG TT [] h) (hf : Fr PT9 [] h h2) (hk : zJ t b m κ s 2 h) : zJ t b m κ s 2 h2 := by
  obtain ⟨op, md, dp, L, o, h1, h3, h4, z, h5, h6⟩ := hk
  exact ⟨op, md, dp, L, o, h1, KX_keep hf ⟨rfl, rfl, rfl, rfl, rfl, rfl, rfl, rfl, rfl⟩ h3, h4, z, fv_keep hf rfl h5, h6⟩
theorem KX_ok {t b op md dp L : Nat} {o : Nat → Int32} {e : Nat} {κ : Int} {s : Nat} {h : List cC} (hk : KX t b op md dp L o e κ s h) : oOK o op := by
  obtain ⟨_, _, _, _, _, _, _, _, _, _, _, _, _, _, _, _, _, p4, _⟩ := hk
  exact p4
abbrev clQ : aQ := mkQ P39 kSg [zn156] 3000 2
theorem clQ_ok : Qok P9 kSg 14 clQ := mkQ_ok J9_ok (d := 12) (cs_cons (Con_le (by decide) zt156) (cs_nil)) 3000 2
abbrev clQE : aQ := mkQ P39 [] [] 3000 0
theorem clQE_ok : Qok P9 [] 14 clQE := Qok_le (by decide) (mkQ_ok J9_ok (d := 0) cs_nil 3000 0)
abbrev cl0 : ghL := ((0, [(0, .inl [170])], [], [], [], []), 1, 5, 60)
abbrev clA : ghL := ((2, [(0, .inl [170])], [.inr (.inl (.inl 3)), .inl [170]], [], [], []), 1, 5, 55)
abbrev clB : ghL := ((5, [(0, .inl [170])], [], [], [], []), 1, 5, 40)
abbrev clC : ghL := ((15, [(0, .inl [170])], [.inl [170]], [(170, 14, .inr (.inl (.inr (0, 1, 0))))], [(0, 399)], []), 1, 5, 35)
abbrev clD1 : ghL := ((18, [(0, .inl [170])], [.inr (.inl (.inl 1))], [], [], []), 2, 5, 30)
abbrev clD0 : ghL := ((18, [(0, .inl [170])], [.inr (.inl (.inl 0))], [], [], []), 1, 5, 30)
abbrev clE : ghL := ((23, [(0, .inl [170])], [.inr (.inl (.inl 1)), .inl [170]], [], [], []), 2, 5, 25)
abbrev clF : ghL := ((26, [(0, .inl [170])], [], [], [], []), 3, 5, 20)
abbrev clG : ghL := ((56, [(0, .inl [170])], [], [], [], []), 1, 5, 70)
abbrev clH : ghL := ((58, [(0, .inl [170])], [.inr (.inl (.inl 3)), .inl [170]], [], [], []), 1, 5, 65)
abbrev clH1 : ghL := ((61, [(0, .inl [170])], [], [], [], []), 1, 5, 62)
abbrev clL : List ghL := [cl0, clA, clB, clC, clD1, clD0, clE, clF, clG, clH, clH1]
abbrev clO : List ghO := [(none, 1)]
set_option maxRecDepth 1000000 in
theorem cl0_k : chkL P39 kSg clQ eM166 0 (ghSel cl0.2.1 clL) (ghOut cl0.2.1 clO) 3000 (ghA cl0) = true := by decide +kernel
set_option maxRecDepth 1000000 in
theorem clA_k : chkC eM166 clL 235 [(none, 1, 1)] clA = true := by decide +kernel
set_option maxRecDepth 1000000 in
theorem clB_k : chkL P39 kSg clQ eM166 0 (ghSel clB.2.1 clL) (ghOut clB.2.1 clO) 3000 (ghA clB) = true := by decide +kernel
set_option maxRecDepth 1000000 in
theorem clC_k : chkC eM166 clL 197 [(some 1, 2, 1), (some 0, 1, 1)] clC = true := by decide +kernel
set_option maxRecDepth 1000000 in
theorem clD1_k : chkL P39 [] clQE eM166 0 (ghSel clD1.2.1 clL) (ghOut clD1.2.1 clO) 3000 (ghA clD1) = true := by decide +kernel
set_option maxRecDepth 1000000 in
theorem clD0_k : chkL P39 kSg clQ eM166 0 (ghSel clD0.2.1 clL) (ghOut clD0.2.1 clO) 3000 (ghA clD0) = true := by decide +kernel
set_option maxRecDepth 1000000 in
theorem clE_k : chkC eM166 clL 235 [(none, 3, 1)] clE = true := by decide +kernel
set_option maxRecDepth 1000000 in
theorem clG_k : chkL P39 kSg clQ eM166 0 (ghSel clG.2.1 clL) (ghOut clG.2.1 clO) 3000 (ghA clG) = true := by decide +kernel
set_option maxRecDepth 1000000 in
theorem clH_k : chkC eM166 clL 235 [(none, 1, 1)] clH = true := by decide +kernel
set_option maxRecDepth 1000000 in
theorem clH1_k : chkL P39 kSg clQ eM166 0 (ghSel clH1.2.1 clL) (ghOut clH1.2.1 clO) 3000 (ghA clH1) = true := by decide +kernel
theorem cl_ok {t b m : Nat} {κ : Int} {s : Nat} (ht : t < 6) (hκ : κ ≤ 80) {h : List cC} (hG : HG TT [] h) (hJ : J9 h) (hk : KS t b m 1 κ s h) : ∃ h2 : List cC, Trm 15 166 [cR 170] h none h2 ∧ HG TT [] h2 ∧ Fr PT9 kWa h h2 ∧ J9 h2 ∧ KS t b m 1 κ s h2 := by
  obtain ⟨r, h2, t1, t2, t3, t4, o, o1, o2, o3⟩ := G_of (JF := zJ t b m κ s) (mu := fun h => fN h 22) (WA := kWa) (d := 14) (mi := 166) (N := eM166) rfl (outs := clO) (Ls := clL.tail) (i := 1) (p := 5) (r := 60) rfl (gh_cons (G_seg (fun h h2 => zJ_fr h h2) (fun h h2 hG hf => by show fN h2 22 = fN h 22; rw [fN_keep hG hf ⟨_, rfl⟩ rfl]) rfl clQ_ok cl0_k) (gh_cons (G_call (N := eM235) rfl clA_k (fun h ρ vs hG hJ hK hB hF hA => by
    obtain ⟨a, e1, e2⟩ := arg2 hA
    subst e1
    have e2 : a.toInt = 3 := e2
    have hK : KS t b m 1 κ s h := hK
    obtain ⟨op, md, dp, L, o, k1, k2⟩ := hK
    obtain ⟨h2, op2, dp2, L2, t1, t2, t3, t4, t5, t6, t7, t8⟩ := se_trm ht (l := a) (by omega) hκ hG hJ k2
    exact ⟨none, h2, Trm_le (by decide) t1, t2, Fr.tr (W2 := kTw) rfl Fr.rf t3, t4, (none, 1, 1), List.mem_singleton.mpr rfl, trivial, ⟨op2, md, dp2, L2, o, k1, t5⟩, (fun _ => by show fN h2 22 ≤ fN h 22; rw [fN_of k2.2.1, fN_of t5.2.1]; exact t6), (fun z => by cases z)⟩)) (gh_cons (G_seg (fun h h2 => zJ_fr h h2) (fun h h2 hG hf => by show fN h2 22 = fN h 22; rw [fN_keep hG hf ⟨_, rfl⟩ rfl]) rfl clQ_ok clB_k) (gh_cons (G_call (N := eM197) rfl clC_k (fun h ρ vs hG hJ hK hB hF hA => by
    have e1 := arg1 hA
    subst e1
    have hK : KS t b m 1 κ s h := hK
    obtain ⟨op, md, dp, L, o, k1, k2⟩ := hK
    obtain ⟨r, t1, t2⟩ := in_trm hG (by omega) k2
    refine ⟨some (cI r), h, Trm_le (by decide) t1, hG, Fr.rf, hJ, ?_⟩
    rcases t2 with ⟨t2, t3⟩ | ⟨t2, t3⟩
    · refine ⟨(some 1, 2, 1), List.mem_of_getElem? (i := 0) rfl, ⟨r, rfl, t2⟩, ⟨op, md, dp, L, o, k1, k2, t3, ?_⟩, (fun _ => Nat.le_refl _), (fun z => by cases z)⟩
      obtain ⟨ci, us, v, u1, u2, x, u3, u4⟩ := hF _ (List.mem_singleton.mpr rfl)
      subst u3
      have b2 := xb_ok hB u4
      have b1 : 0 + 1 * 0 ≤ x.toInt := b2.1
      have b3 : x.toInt ≤ 0 + 1 * 399 := b2.2
      exact ⟨x.toInt, ⟨x, fI_at u1 u2, rfl⟩, by omega, by omega⟩
    · exact ⟨(some 0, 1, 1), List.mem_of_getElem? (i := 1) rfl, ⟨r, rfl, t2⟩, ⟨op, md, dp, L, o, k1, k2⟩, (fun _ => Nat.le_refl _), (fun z => by cases z)⟩)) (gh_cons (G_seg (WS := []) (fun h h2 => zJ_e h h2) (fun h h2 hG hf => by show fN h2 22 = fN h 22; rw [fN_keep hG hf ⟨_, rfl⟩ rfl]) rfl clQE_ok clD1_k) (gh_cons (G_seg (fun h h2 => zJ_fr h h2) (fun h h2 hG hf => by show fN h2 22 = fN h 22; rw [fN_keep hG hf ⟨_, rfl⟩ rfl]) rfl clQ_ok clD0_k) (gh_cons (G_call (N := eM235) rfl clE_k (fun h ρ vs hG hJ hK hB hF hA => by
    obtain ⟨a, e1, e2⟩ := arg2 hA
    subst e1
    have e2 : a.toInt = 1 := e2
    obtain ⟨op, md, dp, L, o, k1, k2, ⟨j, j1, j2⟩, z, k4, k5⟩ := hK
    obtain ⟨h2, op2, dp2, L2, t1, t2, t3, t4, t5, t6, t7, t8⟩ := se_trm ht (l := a) (by omega) hκ hG hJ k2
    have hj : j < op2 := by
      by_cases hc : j < op2
      · exact hc
      · exact absurd j2 (t7 j (by omega) j1)
    obtain ⟨op3, rfl⟩ : ∃ n : Nat, op2 = n + 1 := ⟨op2 - 1, by omega⟩
    have h9 : o op3 = 91 := by
      rcases t8 with t8 | t8
      · omega
      · rw [show op3 + 1 - 1 = op3 by omega] at t8
        have s1 : (str 11).toInt = 3 := rfl
        have s2 : (str 12).toInt = 2 := rfl
        have s3 : (str 13).toInt = 1 := rfl
        rcases KX_ok t5 op3 (by omega) with e | e | e | e
        · rw [e] at t8; omega
        · rw [e] at t8; omega
        · rw [e] at t8; omega
        · exact e
    exact ⟨none, h2, Trm_le (by decide) t1, t2, Fr.tr (W2 := kTw) rfl Fr.rf t3, t4, (none, 3, 1), List.mem_singleton.mpr rfl, trivial, ⟨op3, md, dp2, L2, o, k1, t5, h9, z, fv_keep t3 rfl k4, k5⟩, (fun _ => by show fN h2 22 ≤ fN h 22; rw [fN_of k2.2.1, fN_of t5.2.1]; exact t6), (fun z => by cases z)⟩)) (gh_cons (fun S hS hJ hK => by
    obtain ⟨Spc, Sls, Sst, h⟩ := S
    obtain ⟨e1, hG, ρ, hB, hR, hL, hSt, hF⟩ := hS
    dsimp only at e1 hG hB hR hL hSt hF hJ hK
    have e2 : Sst = [] := by
      cases Sst with
      | nil => rfl
      | cons _ _ => exact hSt.elim
    have c0 := vR hL (j := 0) (k := 170) (List.mem_singleton.mpr rfl)
    subst e1 e2
    obtain ⟨op, md, dp, L, o, k1, ⟨q1, q2, q3, q4, q5⟩, h9, z, k4, k5⟩ := hK
    obtain ⟨vs, m1, m3, m4, m5, m6, m7⟩ := mo_at hG
    obtain ⟨x, x1, x2⟩ := fv_at m1 q2
    obtain ⟨y, y1, y2⟩ := fv_at m1 q4
    obtain ⟨w, w1, w2⟩ := fv_at m1 k4
    obtain ⟨hdp, q6⟩ := KZ_one q5 (by rw [h9]; decide)
    have hcl : classes[12]? = some classes[12] := rfl
    have hop : op + 1 ≤ 400 := by
      obtain ⟨_, f, g, gc, cc, _, _, _, _, _, p1, p2, p3, p4, p5, p6, p7, p8, p9⟩ := q5
      omega
    have hx1 : (x - Int32.ofInt 1).toInt = (op : Nat) := by
      rw [i32_sub (by rw [one_i]; omega) (by rw [one_i]; omega), one_i]
      omega
    have hdp10 : dp ≤ 10 := by
      obtain ⟨_, f, g, gc, cc, _, _, _, _, _, p1, p2, p3, p4, p5, p6, p7, p8, p9⟩ := q5
      exact p3
    have hy1 : (y - Int32.ofInt 1).toInt = ((dp - 1 : Nat) : Int) := by
      rw [i32_sub (by rw [one_i]; omega) (by rw [one_i]; omega), one_i]
      omega
    have hw1 : (w + Int32.ofInt 1).toInt = z + 1 := by
      rw [i32_add (by rw [one_i]; omega) (by rw [one_i]; omega), one_i]
      omega
    have l22 : 22 < vs.length := (List.getElem?_eq_some_iff.mp x1).1
    have l19 : 19 < vs.length := (List.getElem?_eq_some_iff.mp y1).1
    have n1 : (h.set 170 (.inl (12, vs.set 22 (cI (x - Int32.ofInt 1)))))[170]? = some (.inl (12, vs.set 22 (cI (x - Int32.ofInt 1)))) := List.getElem?_set_self (List.getElem?_eq_some_iff.mp m1).1
    have n2 : (vs.set 22 (cI (x - Int32.ofInt 1)))[19]? = some (cI y) := by
      rw [List.getElem?_set_ne (by decide)]
      exact y1
    have n3 : ((h.set 170 (.inl (12, vs.set 22 (cI (x - Int32.ofInt 1))))).set 170 (.inl (12, (vs.set 22 (cI (x - Int32.ofInt 1))).set 19 (cI (y - Int32.ofInt 1)))))[170]? = some (.inl (12, (vs.set 22 (cI (x - Int32.ofInt 1))).set 19 (cI (y - Int32.ofInt 1)))) := List.getElem?_set_self (List.getElem?_eq_some_iff.mp n1).1
    have n4 : ((vs.set 22 (cI (x - Int32.ofInt 1))).set 19 (cI (y - Int32.ofInt 1)))[14]? = some (cI w) := by
      rw [List.getElem?_set_ne (by decide), List.getElem?_set_ne (by decide)]
      exact w1
    have g1 : HG TT [] (h.set 170 (.inl (12, vs.set 22 (cI (x - Int32.ofInt 1))))) := HG_mo hG m1 (j := 22) (b := (0, 400)) rfl ⟨by show (0 : Int) ≤ _; omega, by show _ ≤ (400 : Int); omega⟩
    have g2 := HG_mo g1 n1 (j := 19) (b := (-2147483648, 2147483647)) (x := y - Int32.ofInt 1) rfl (in_f32 _)
    have g3 := HG_mo g2 n3 (j := 14) (b := (0, 400)) (x := w + Int32.ofInt 1) rfl ⟨by show (0 : Int) ≤ _; omega, by show _ ≤ (400 : Int); omega⟩
    have v22 := fv_eq m1 l22 (x - Int32.ofInt 1)
    rw [hx1] at v22
    have v19 := fv_eq n1 (i := 19) (by rw [List.length_set]; exact l19) (y - Int32.ofInt 1)
    rw [hy1] at v19
    have y22 := fv_ne n3 (i := 14) (v := cI (w + Int32.ofInt 1)) (by decide) (fv_ne n1 (i := 19) (v := cI (y - Int32.ofInt 1)) (by decide) v22)
    have y19 := fv_ne n3 (i := 14) (v := cI (w + Int32.ofInt 1)) (by decide) v19
    have y17 := fv_ne n3 (i := 14) (v := cI (w + Int32.ofInt 1)) (by decide) (fv_ne n1 (i := 19) (v := cI (y - Int32.ofInt 1)) (by decide) (fv_ne m1 (i := 22) (v := cI (x - Int32.ofInt 1)) (by decide) q1))
    have y18 := fv_ne n3 (i := 14) (v := cI (w + Int32.ofInt 1)) (by decide) (fv_ne n1 (i := 19) (v := cI (y - Int32.ofInt 1)) (by decide) (fv_ne m1 (i := 22) (v := cI (x - Int32.ofInt 1)) (by decide) q3))
    refine ⟨(56, Sls, [], _), Go.step (o_aload_n (i := 0) rfl c0) (Go.step (o_step rfl rfl) (Go.step (o_get rfl rfl rfl m1 x1) (Go.step (o_step rfl rfl) (Go.step (o_step rfl rfl) (Go.step (o_put rfl rfl rfl m1 x1 hcl rfl rfl) (Go.step (o_aload_n (i := 0) rfl c0) (Go.step (o_step rfl rfl) (Go.step (o_get rfl rfl rfl n1 n2) (Go.step (o_step rfl rfl) (Go.step (o_step rfl rfl) (Go.step (o_put rfl rfl rfl n1 n2 hcl rfl rfl) (Go.step (o_aload_n (i := 0) rfl c0) (Go.step (o_step rfl rfl) (Go.step (o_get rfl rfl rfl n3 n4) (Go.step (o_step rfl rfl) (Go.step (o_step rfl rfl) (Go.step (o_put rfl rfl rfl n3 n4 hcl rfl rfl) Go.rf))))))))))))))))), Fr_mo (Fr_mo (Fr_mo Fr.rf m1 rfl) n1 rfl) n3 rfl, J9_mo (J9_mo (J9_mo hJ)), Or.inl ⟨clG, List.mem_of_getElem? (i := 8) rfl, ⟨rfl, g3, ρ, hB, ⟨hR.1, fun q hq => by cases hq⟩, hL, trivial, (fun q hq => by cases hq)⟩, ⟨op, md, dp - 1, L, o, k1, y17, y22, y18, y19, ?_⟩, ?_⟩⟩
    · obtain ⟨a0, f, g, gc, cc, a1, a2, a3, a4, a5, p1, p2, p3, p4, p5, p6, p7, p8, p9⟩ := KZ_mo (c := .inl (12, ((vs.set 22 (cI (x - Int32.ofInt 1))).set 19 (cI (y - Int32.ofInt 1))).set 14 (cI (w + Int32.ofInt 1)))) (KZ_mo (c := .inl (12, (vs.set 22 (cI (x - Int32.ofInt 1))).set 19 (cI (y - Int32.ofInt 1)))) (KZ_mo (c := .inl (12, vs.set 22 (cI (x - Int32.ofInt 1)))) q6))
      exact ⟨a0, f, g, gc, cc, a1, a2, a3, a4, a5, p1, p2, p3, p4, p5, p6, p7, by omega, p9⟩
    · refine Prod.Lex.right _ (Prod.Lex.left _ _ ?_)
      show fN _ 22 < fN h 22
      rw [fN_of q2, fN_of y22]
      omega) (gh_cons (G_seg (fun h h2 => zJ_fr h h2) (fun h h2 hG hf => by show fN h2 22 = fN h 22; rw [fN_keep hG hf ⟨_, rfl⟩ rfl]) rfl clQ_ok clG_k) (gh_cons (G_call (N := eM235) rfl clH_k (fun h ρ vs hG hJ hK hB hF hA => by
    obtain ⟨a, e1, e2⟩ := arg2 hA
    subst e1
    have e2 : a.toInt = 3 := e2
    have hK : KS t b m 1 κ s h := hK
    obtain ⟨op, md, dp, L, o, k1, k2⟩ := hK
    obtain ⟨h2, op2, dp2, L2, t1, t2, t3, t4, t5, t6, t7, t8⟩ := se_trm ht (l := a) (by omega) hκ hG hJ k2
    exact ⟨none, h2, Trm_le (by decide) t1, t2, Fr.tr (W2 := kTw) rfl Fr.rf t3, t4, (none, 1, 1), List.mem_singleton.mpr rfl, trivial, ⟨op2, md, dp2, L2, o, k1, t5⟩, (fun _ => by show fN h2 22 ≤ fN h 22; rw [fN_of k2.2.1, fN_of t5.2.1]; exact t6), (fun z => by cases z)⟩)) (gh_cons (G_seg (fun h h2 => zJ_fr h h2) (fun h h2 hG hf => by show fN h2 22 = fN h 22; rw [fN_keep hG hf ⟨_, rfl⟩ rfl]) rfl clQ_ok clH1_k) (gh_nil)))))))))))) hG hJ hk
  have e1 := List.mem_singleton.mp o1
  subst e1
  cases r with
  | none => exact ⟨h2, t1, t2, t3, t4, o3⟩
  | some v => exact o2.elim
