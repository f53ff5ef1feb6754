/-! GHOSTS, 11: what is tested (printed by wip/hand/gen89k.py) -/
/-- at the beginning of a clause -/
def KB (t b m : Nat) (h : List cC) : Prop := ∃ (md : Nat) (o f g gc cc : Nat → Int32), fv h 17 t ∧ fv h 18 md ∧ m ≤ md ∧ md ≤ 60 ∧ (b : Int) ≤ 5 * md ∧ h[180]? = some (.inr (.inl (0, 400, o))) ∧ h[172]? = some (.inr (.inl (0, 2400, f))) ∧ h[173]? = some (.inr (.inl (0, 7, g))) ∧ h[174]? = some (.inr (.inl (0, 216, gc))) ∧ h[175]? = some (.inr (.inl (0, 6, cc))) ∧ (g t).toInt = b ∧ ∀ j : Nat, j < 12 → (j : Int) < (cc t).toInt → (gc (36 * t + 3 * j + 2)).toInt ≤ b
/-- at its end -/
def KE (t b m : Nat) (h : List cC) : Prop := ∃ (md dp L : Nat) (o : Nat → Int32), m ≤ md ∧ KX t b 0 md dp L o 1 (-2) 0 h
def sJ (t b m : Nat) : Nat → List cC → Prop
  | 0 => KB t b m
  | 1 => KS t b m 0 0 0
  | 2 => KS t b m 1 (-2) 0
  | 5 => fun h => ∃ (op md dp L : Nat) (o : Nat → Int32), m ≤ md ∧ KX t b op md dp L o 1 (-2) 0 h ∧ ∀ j : Nat, j < op → o j ≠ 91
  | 6 => KE t b m
  | _ => fun _ => True
theorem KE_kS {t b m : Nat} {h h2 : List cC} (hf : Fr PT9 kSg h h2) (hk : KE t b m h) : KE t b m h2 := by
  obtain ⟨md, dp, L, o, h1, h3⟩ := hk
  exact ⟨md, dp, L, o, h1, KX_kS hf h3⟩
theorem sJ_fr {t b m : Nat} (h h2 : List cC) (i : Nat) (hi : (Nat.beq i 0 || Nat.beq i 5) = false) (hG : HG TT [] h) (hf : Fr PT9 kSg h h2) (hk : sJ t b m i h) : sJ t b m i h2 := match i, hi, hk with
  | 0, hi, _ => by cases hi
  | 1, _, hk => KS_kS hf hk
  | 2, _, hk => KS_kS hf hk
  | 3, _, _ => trivial
  | 4, _, _ => trivial
  | 5, hi, _ => by cases hi
  | 6, _, hk => KE_kS hf hk
  | _ + 7, _, _ => trivial
theorem sJ_e {t b m : Nat} (h h2 : List cC) (hG : HG TT [] h) (hf : Fr PT9 [] h h2) (hk : sJ t b m 5 h) : sJ t b m 5 h2 := by
  obtain ⟨op, md, dp, L, o, h1, h3, h4⟩ := hk
  exact ⟨op, md, dp, L, o, h1, KX_keep hf ⟨rfl, rfl, rfl, rfl, rfl, rfl, rfl, rfl, rfl⟩ h3, h4⟩
abbrev tsQ : aQ := mkQ P39 kSg [zn156, zn157, zn158] 3000 2
theorem tsQ_ok : Qok P9 kSg 22 tsQ := mkQ_ok J9_ok (d := 20) (cs_cons (Con_le (by decide) zt156) (cs_cons (Con_le (by decide) zt157) (cs_cons (Con_le (by decide) zt158) (cs_nil)))) 3000 2
abbrev tsQE : aQ := mkQ P39 [] [] 3000 0
theorem tsQE_ok : Qok P9 [] 22 tsQE := Qok_le (by decide) (mkQ_ok J9_ok (d := 0) cs_nil 3000 0)
abbrev ts0 : ghL := ((0, [(0, .inl [170])], [], [], [], []), 0, 9, 0)
abbrev tsP : ghL := ((10, [(0, .inl [170])], [], [], [], []), 1, 8, 0)
abbrev tsB1 : ghL := ((12, [(0, .inl [170]), (1, .inr (.inl (.inl 1)))], [], [], [], []), 1, 5, 40)
abbrev tsA : ghL := ((17, [(0, .inl [170])], [.inl [170]], [], [], []), 1, 5, 35)
abbrev tsA1 : ghL := ((20, [(0, .inl [170])], [.inr (.inl (.inl 1))], [], [], []), 2, 5, 90)
abbrev tsA0 : ghL := ((20, [(0, .inl [170])], [.inr (.inl (.inl 0))], [], [], []), 99, 4, 0)
abbrev tsD : ghL := ((26, [(0, .inl [170])], [.inl [170]], [], [], []), 2, 5, 85)
abbrev tsD1 : ghL := ((29, [(0, .inl [170])], [], [], [], []), 2, 5, 80)
abbrev tsS : ghL := ((86, [(0, .inl [170]), (1, .inr (.inl (.inl 1))), (2, .inr (.inl (.inr (0, 1, 1))))], [.inr (.inl (.inr (0, 1, 0))), .inl [170]], [], [(1, 2), (12, 13)], []), 2, 5, 70)
abbrev tsS1 : ghL := ((89, [(0, .inl [170]), (1, .inr (.inl (.inl 1))), (2, .inr (.inl (.inr (0, 1, 0))))], [], [], [(12, 13)], []), 2, 5, 65)
abbrev tsT : ghL := ((109, [(0, .inl [170]), (1, .inr (.inl (.inl 1)))], [], [], [], []), 1, 5, 60)
abbrev tsB0 : ghL := ((12, [(0, .inl [170]), (1, .inr (.inl (.inl 0)))], [], [], [], []), 2, 5, 10)
abbrev tsI : ghL := ((113, [(0, .inl [170])], [.inl [170]], [], [], []), 2, 3, 0)
abbrev tsI1 : ghL := ((116, [(0, .inl [170])], [.inr (.inl (.inl 1))], [], [], []), 99, 2, 0)
abbrev tsI0 : ghL := ((116, [(0, .inl [170])], [.inr (.inl (.inl 0))], [], [], []), 5, 2, 5)
abbrev tsJ : ghL := ((136, [(0, .inl [170])], [.inr (.inl (.inl 1)), .inl [170]], [], [], []), 5, 2, 0)
abbrev tsJ1 : ghL := ((139, [(0, .inl [170])], [], [], [], []), 6, 1, 0)
abbrev tsL : List ghL := [ts0, tsP, tsB1, tsA, tsA1, tsA0, tsD, tsD1, tsS, tsS1, tsT, tsB0, tsI, tsI1, tsI0, tsJ, tsJ1]
abbrev tsO : List ghO := [(some 0, 99), (some 1, 6)]
set_option maxRecDepth 1000000 in
theorem tsP_k : chkL P39 kSg tsQ eM247 0 (ghSel tsP.2.1 tsL) (ghOut tsP.2.1 tsO) 3000 (ghA tsP) = true := by decide +kernel
set_option maxRecDepth 1000000 in
theorem tsB1_k : chkL P39 kSg tsQ eM247 0 (ghSel tsB1.2.1 tsL) (ghOut tsB1.2.1 tsO) 3000 (ghA tsB1) = true := by decide +kernel
set_option maxRecDepth 1000000 in
theorem tsA_k : chkC eM247 tsL 175 [(some 1, 2, 2), (some 0, 99, 0)] tsA = true := by decide +kernel
set_option maxRecDepth 1000000 in
theorem tsA1_k : chkL P39 kSg tsQ eM247 0 (ghSel tsA1.2.1 tsL) (ghOut tsA1.2.1 tsO) 3000 (ghA tsA1) = true := by decide +kernel
set_option maxRecDepth 1000000 in
theorem tsA0_k : chkL P39 kSg tsQ eM247 0 (ghSel tsA0.2.1 tsL) (ghOut tsA0.2.1 tsO) 3000 (ghA tsA0) = true := by decide +kernel
set_option maxRecDepth 1000000 in
theorem tsD_k : chkC eM247 tsL 166 [(none, 2, 1)] tsD = true := by decide +kernel
set_option maxRecDepth 1000000 in
theorem tsD1_k : chkL P39 kSg tsQ eM247 0 (ghSel tsD1.2.1 tsL) (ghOut tsD1.2.1 tsO) 3000 (ghA tsD1) = true := by decide +kernel
set_option maxRecDepth 1000000 in
theorem tsS_k : chkC eM247 tsL 235 [(none, 2, 1)] tsS = true := by decide +kernel
set_option maxRecDepth 1000000 in
theorem tsT_k : chkL P39 kSg tsQ eM247 0 (ghSel tsT.2.1 tsL) (ghOut tsT.2.1 tsO) 3000 (ghA tsT) = true := by decide +kernel
set_option maxRecDepth 1000000 in
theorem tsB0_k : chkL P39 kSg tsQ eM247 0 (ghSel tsB0.2.1 tsL) (ghOut tsB0.2.1 tsO) 3000 (ghA tsB0) = true := by decide +kernel
set_option maxRecDepth 1000000 in
theorem tsI_k : chkC eM247 tsL 197 [(some 1, 99, 0), (some 0, 5, 0)] tsI = true := by decide +kernel
set_option maxRecDepth 1000000 in
theorem tsI1_k : chkL P39 kSg tsQ eM247 0 (ghSel tsI1.2.1 tsL) (ghOut tsI1.2.1 tsO) 3000 (ghA tsI1) = true := by decide +kernel
set_option maxRecDepth 1000000 in
theorem tsI0_k : chkL P39 [] tsQE eM247 0 (ghSel tsI0.2.1 tsL) (ghOut tsI0.2.1 tsO) 3000 (ghA tsI0) = true := by decide +kernel
set_option maxRecDepth 1000000 in
theorem tsJ_k : chkC eM247 tsL 235 [(none, 6, 0)] tsJ = true := by decide +kernel
set_option maxRecDepth 1000000 in
theorem tsJ1_k : chkL P39 kSg tsQ eM247 0 (ghSel tsJ1.2.1 tsL) (ghOut tsJ1.2.1 tsO) 3000 (ghA tsJ1) = true := by decide +kernel
theorem ts_ok {t b m : Nat} (ht : t < 6) {h : List cC} (hG : HG TT [] h) (hJ : J9 h) (hk : KB t b m h) : ∃ (r : Option cV) (h2 : List cC), Trm 23 247 [cR 170] h r h2 ∧ HG TT [] h2 ∧ Fr PT9 kWa h h2 ∧ J9 h2 ∧ (retV [] (ghR (some 0)) r ∨ (retV [] (ghR (some 1)) r ∧ KE t b m h2)) := by
  obtain ⟨r, h2, t1, t2, t3, t4, o, o1, o2, o3⟩ := G_of (JF := sJ t b m) (mu := fun h => 60 - fN h 18) (WA := kWa) (d := 22) (mi := 247) (N := eM247) rfl (outs := tsO) (Ls := tsL.tail) (i := 0) (p := 9) (r := 0) rfl (gh_cons (fun S hS hJ hK => by
    obtain ⟨Spc, Sls, Sst, h⟩ := S
    obtain ⟨e1, hG, ρ, hB, hR, hL, hSt, hF⟩ := hS
    dsimp only at e1 hG hB hR hL hSt hF hJ hK
    have e2 : Sst = [] := by
      cases Sst with
      | nil => rfl
      | cons _ _ => exact hSt.elim
    have c0 := vR hL (j := 0) (k := 170) (List.mem_of_getElem? (i := 0) rfl)
    subst e1 e2
    obtain ⟨vs, m1, m3, m4, m5, m6, m7⟩ := mo_at hG
    have hcl : classes[12]? = some classes[12] := rfl
    obtain ⟨md, o, f, g, gc, cc, k1, k2, k3, k4, k5, k6, k7, k8, k9, k10, k11, k12⟩ := hK
    obtain ⟨x, w1, w2, w3⟩ := HG_mf hG (j := 22) (b := (0, 400)) rfl
    obtain ⟨x', x1, x2⟩ := fv_at m1 ⟨x, w1, rfl⟩
    obtain ⟨y, w4, w5, w6⟩ := HG_mf hG (j := 19) (b := (-2147483648, 2147483647)) rfl
    obtain ⟨y', y1, y2⟩ := fv_at m1 ⟨y, w4, rfl⟩
    have l22 : 22 < vs.length := (List.getElem?_eq_some_iff.mp x1).1
    have l19 : 19 < vs.length := (List.getElem?_eq_some_iff.mp y1).1
    have n1 : (h.set 170 (.inl (12, vs.set 22 (cI (Int32.ofInt 0)))))[170]? = some (.inl (12, vs.set 22 (cI (Int32.ofInt 0)))) := List.getElem?_set_self (List.getElem?_eq_some_iff.mp m1).1
    have n2 : (vs.set 22 (cI (Int32.ofInt 0)))[19]? = some (cI y') := by
      rw [List.getElem?_set_ne (by decide)]
      exact y1
    have g1 : HG TT [] (h.set 170 (.inl (12, vs.set 22 (cI (Int32.ofInt 0))))) := HG_mo hG m1 (j := 22) (b := (0, 400)) rfl ⟨by decide, by decide⟩
    have g2 := HG_mo g1 n1 (j := 19) (b := (-2147483648, 2147483647)) (x := Int32.ofInt 0) rfl (in_f32 _)
    have v22 := fv_ne n1 (i := 19) (v := cI (Int32.ofInt 0)) (by decide) (fv_eq m1 l22 (Int32.ofInt 0))
    have v19 := fv_eq n1 (i := 19) (by rw [List.length_set]; exact l19) (Int32.ofInt 0)
    have v17 := fv_ne n1 (i := 19) (v := cI (Int32.ofInt 0)) (by decide) (fv_ne m1 (i := 22) (v := cI (Int32.ofInt 0)) (by decide) k1)
    have v18 := fv_ne n1 (i := 19) (v := cI (Int32.ofInt 0)) (by decide) (fv_ne m1 (i := 22) (v := cI (Int32.ofInt 0)) (by decide) k2)
    have rr : ∀ (k : Nat) (c1 c2 c : cC), k ≠ 170 → h[k]? = some c → ((h.set 170 c1).set 170 c2)[k]? = some c := fun k c1 c2 c hk hh => by
      rw [List.getElem?_set_ne (Ne.symm hk), List.getElem?_set_ne (Ne.symm hk)]
      exact hh
    refine ⟨(10, Sls, [], _), Go.step (o_aload_n (i := 0) rfl c0) (Go.step (o_step rfl rfl) (Go.step (o_put rfl rfl rfl m1 x1 hcl rfl rfl) (Go.step (o_aload_n (i := 0) rfl c0) (Go.step (o_step rfl rfl) (Go.step (o_put rfl rfl rfl n1 n2 hcl rfl rfl) Go.rf))))), Fr_mo (Fr_mo Fr.rf m1 rfl) n1 rfl, J9_mo (J9_mo hJ), Or.inl ⟨tsP, List.mem_of_getElem? (i := 1) rfl, ⟨rfl, g2, ρ, hB, ⟨hR.1, fun q hq => by cases hq⟩, hL, trivial, (fun q hq => by cases hq)⟩, ⟨0, md, 0, b, o, k3, v17, v22, v18, v19, rr 180 _ _ _ (by decide) k6, f, g, gc, cc, rr 172 _ _ _ (by decide) k7, rr 173 _ _ _ (by decide) k8, rr 174 _ _ _ (by decide) k9, rr 175 _ _ _ (by decide) k10, k11, Nat.le_refl _, k4, by omega, (fun k hk => by omega), rfl, by rw [Nat.sub_self]; rfl, by show 0 + 0 + 0 ≤ md; omega, by omega, k12⟩, Prod.Lex.left _ _ (by decide)⟩⟩) (gh_cons (G_seg (fun h h2 => sJ_fr h h2 _ rfl) (fun h h2 hG hf => by show 60 - fN h2 18 = 60 - fN h 18; rw [fN_keep hG hf ⟨_, rfl⟩ rfl]) rfl tsQ_ok tsP_k) (gh_cons (G_seg (fun h h2 => sJ_fr h h2 _ rfl) (fun h h2 hG hf => by show 60 - fN h2 18 = 60 - fN h 18; rw [fN_keep hG hf ⟨_, rfl⟩ rfl]) rfl tsQ_ok tsB1_k) (gh_cons (G_call (N := eM175) rfl tsA_k (fun h ρ vs hG hJ hK hB hF hA => by
    have e1 := arg1 hA
    subst e1
    have hK : KS t b m 0 0 0 h := hK
    obtain ⟨op, md, dp, L, o, k1, k2⟩ := hK
    obtain ⟨r, h2, t1, t2, t3, t4, t5⟩ := fc_ok (m := md) ht (by decide) hG hJ ⟨op, md, dp, L, o, Nat.le_refl _, k2⟩
    refine ⟨r, h2, Trm_le (by decide) t1, t2, t3, t4, ?_⟩
    rcases t5 with t5 | ⟨t5, op2, md2, dp2, L2, o2, t6, t7⟩
    · exact ⟨(some 0, 99, 0), List.mem_of_getElem? (i := 1) rfl, t5, trivial, (fun z => by cases z), (fun z => by cases z)⟩
    · refine ⟨(some 1, 2, 2), List.mem_of_getElem? (i := 0) rfl, t5, ⟨op2, md2, dp2, L2, o2, by omega, t7⟩, (fun z => by cases z), fun _ => ?_⟩
      have z1 := fN_of k2.2.2.1
      have z2 := fN_of t7.2.2.1
      have z3 := KX_md t7
      show 60 - fN h2 18 < 60 - fN h 18
      omega)) (gh_cons (G_seg (fun h h2 => sJ_fr h h2 _ rfl) (fun h h2 hG hf => by show 60 - fN h2 18 = 60 - fN h 18; rw [fN_keep hG hf ⟨_, rfl⟩ rfl]) rfl tsQ_ok tsA1_k) (gh_cons (G_seg (fun h h2 => sJ_fr h h2 _ rfl) (fun h h2 hG hf => by show 60 - fN h2 18 = 60 - fN h 18; rw [fN_keep hG hf ⟨_, rfl⟩ rfl]) rfl tsQ_ok tsA0_k) (gh_cons (G_call (N := eM166) rfl tsD_k (fun h ρ vs hG hJ hK hB hF hA => by
    have e1 := arg1 hA
    subst e1
    have hK : KS t b m 1 (-2) 0 h := hK
    obtain ⟨op, md, dp, L, o, k1, k2⟩ := hK
    obtain ⟨h2, t1, t2, t3, t4, op2, md2, dp2, L2, o2, t6, t7⟩ := cl_ok (m := md) ht (by decide) hG hJ ⟨op, md, dp, L, o, Nat.le_refl _, k2⟩
    refine ⟨none, h2, Trm_le (by decide) t1, t2, t3, t4, (none, 2, 1), List.mem_singleton.mpr rfl, trivial, ⟨op2, md2, dp2, L2, o2, by omega, t7⟩, (fun _ => ?_), (fun z => by cases z)⟩
    have z1 := fN_of k2.2.2.1
    have z2 := fN_of t7.2.2.1
    show 60 - fN h2 18 ≤ 60 - fN h 18
    omega)) (gh_cons (G_seg (fun h h2 => sJ_fr h h2 _ rfl) (fun h h2 hG hf => by show 60 - fN h2 18 = 60 - fN h 18; rw [fN_keep hG hf ⟨_, rfl⟩ rfl]) rfl tsQ_ok tsD1_k) (gh_cons (G_call (N := eM235) rfl tsS_k (fun h ρ vs hG hJ hK hB hF hA => by
    obtain ⟨a, e1, e2⟩ := arg2 hA
    subst e1
    have b2 := xb_ok hB e2
    have b1 : 0 + 1 * 1 ≤ a.toInt := b2.1
    have hK : KS t b m 1 (-2) 0 h := hK
    obtain ⟨op, md, dp, L, o, k1, k2⟩ := hK
    obtain ⟨h2, op2, dp2, L2, t1, t2, t3, t4, t5, t6, t7, t8⟩ := se_trm ht (l := a) (by omega) (by decide) hG hJ k2
    exact ⟨none, h2, Trm_le (by decide) t1, t2, Fr.tr (W2 := kTw) rfl Fr.rf t3, t4, (none, 2, 1), List.mem_singleton.mpr rfl, trivial, ⟨op2, md, dp2, L2, o, k1, t5⟩, (fun _ => by show 60 - fN h2 18 ≤ 60 - fN h 18; rw [fN_of k2.2.2.1, fN_of t5.2.2.1]; exact Nat.le_refl _), (fun z => by cases z)⟩)) (gh_cons (fun S hS hJ hK => by
    obtain ⟨Spc, Sls, Sst, h⟩ := S
    obtain ⟨e1, hG, ρ, hB, hR, hL, hSt, hF⟩ := hS
    dsimp only at e1 hG hB hR hL hSt hF hJ hK
    have e2 : Sst = [] := by
      cases Sst with
      | nil => rfl
      | cons _ _ => exact hSt.elim
    have c0 := vR hL (j := 0) (k := 170) (List.mem_of_getElem? (i := 0) rfl)
    subst e1 e2
    obtain ⟨vs, m1, m3, m4, m5, m6, m7⟩ := mo_at hG
    have hcl : classes[12]? = some classes[12] := rfl
    obtain ⟨u2, c2, w, u3, u4⟩ := hL (2, .inr (.inl (.inr (0, 1, 0)))) (List.mem_of_getElem? (i := 2) rfl)
    subst u3
    have b2 := xb_ok hB u4
    have b1 : 0 + 1 * 12 ≤ w.toInt := b2.1
    have b3 : w.toInt ≤ 0 + 1 * 13 := b2.2
    have hw : w = 12 ∨ w = 13 := by
      have : w.toInt = 12 ∨ w.toInt = 13 := by omega
      rcases this with e | e
      · exact Or.inl ((i32_of e).trans rfl)
      · exact Or.inr ((i32_of e).trans rfl)
    have hK : KS t b m 1 (-2) 0 h := hK
    obtain ⟨op, md, dp, L, o, k1, q1, q2, q3, q4, q5⟩ := hK
    obtain ⟨y, y1, y2⟩ := fv_at m1 q2
    have r5 := q5.1
    have hop : op + 1 ≤ 400 := by
      obtain ⟨_, f, g, gc, cc, _, _, _, _, _, p1, p2, p3, p4, p5, p6, p7, p8, p9⟩ := q5
      omega
    have hy1 : (y + Int32.ofInt 1).toInt = ((op + 1 : Nat) : Int) := by
      rw [i32_add (by rw [one_i]; omega) (by rw [one_i]; omega), one_i]
      omega
    have l22 : 22 < vs.length := (List.getElem?_eq_some_iff.mp y1).1
    obtain ⟨i1, i2⟩ := in_B (n := 400) y2 (by omega)
    have hh : (h.set 180 (.inr (.inl (0, 400, upd o op w))))[170]? = some (.inl (12, vs)) := by
      rw [List.getElem?_set_ne (by decide)]
      exact m1
    have s98 : ∀ st : List cV, cOne (calF (Trm 22)) eM247 none (98, Sls, cI w :: cI y :: cR 180 :: st, h) = some (99, Sls, st, h.set 180 (.inr (.inl (0, 400, upd o op w)))) := fun st => by
      have := o_iast (call := calF (Trm 22)) (M := eM247) (sc := none) (pc := 98) (ls := Sls) (st := st) (x := w) rfl r5 i1
      rw [i2] at this
      exact this
    have g1 := HG_op hG r5 op w
    have g2 := HG_mo g1 hh (j := 22) (b := (0, 400)) (x := y + Int32.ofInt 1) rfl ⟨by show (0 : Int) ≤ _; omega, by show _ ≤ (400 : Int); omega⟩
    have v22 := fv_eq hh l22 (y + Int32.ofInt 1)
    rw [hy1] at v22
    have v18 := fv_ne hh (i := 22) (v := cI (y + Int32.ofInt 1)) (by decide) (fv_row (k := 180) (c := .inr (.inl (0, 400, upd o op w))) (by decide) q3)
    refine ⟨(109, Sls, [], _), Go.step (o_aload_n (i := 0) rfl c0) (Go.step (o_get rfl rfl rfl m1 m7) (Go.step (o_aload_n (i := 0) rfl c0) (Go.step (o_get rfl rfl rfl m1 y1) (Go.step (o_iload_n (i := 2) rfl c2) (Go.step (s98 _) (Go.step (o_aload_n (i := 0) rfl c0) (Go.step (o_step rfl rfl) (Go.step (o_get rfl rfl rfl hh y1) (Go.step (o_step rfl rfl) (Go.step (o_step rfl rfl) (Go.step (o_put rfl rfl rfl hh y1 hcl rfl rfl) Go.rf))))))))))), Fr_mo (Fr_op Fr.rf r5 rfl) hh rfl, J9_mo (J9_op hJ), Or.inl ⟨tsT, List.mem_of_getElem? (i := 10) rfl, ⟨rfl, g2, [], bnil, ⟨List.nil_prefix, fun q hq => by cases hq⟩, (fun q hq => ?_), trivial, (fun q hq => by cases hq)⟩, ⟨op + 1, md, dp, L, upd o op w, k1, KX_le (κ := -2 + 1) (by decide) (Nat.le_refl _) ⟨fv_ne hh (by decide) (fv_row (by decide) q1), v22, v18, fv_ne hh (by decide) (fv_row (by decide) q4), KZ_mo (KZ_psh q5 hw)⟩⟩, ?_⟩⟩
    · rcases List.mem_cons.mp hq with e | hq
      · subst e
        exact ⟨cR 170, c0, 170, List.mem_singleton.mpr rfl, rfl⟩
      · have e := List.mem_singleton.mp hq
        subst e
        obtain ⟨v9, c9, x9, u9, u8⟩ := hL (1, .inr (.inl (.inl 1))) (List.mem_of_getElem? (i := 1) rfl)
        exact ⟨v9, c9, x9, u9, u8⟩
    · have e : (60 - fN ((h.set 180 (.inr (.inl (0, 400, upd o op w)))).set 170 (.inl (12, vs.set 22 (cI (y + Int32.ofInt 1))))) 18) = 60 - fN h 18 := by rw [fN_of q3, fN_of v18]
      refine Prod.Lex.right _ ?_
      show Prod.Lex _ _ (60 - fN ((h.set 180 (.inr (.inl (0, 400, upd o op w)))).set 170 (.inl (12, vs.set 22 (cI (y + Int32.ofInt 1))))) 18, 60) (60 - fN h 18, 65)
      rw [e]
      exact Prod.Lex.right _ (by decide)) (gh_cons (G_seg (fun h h2 => sJ_fr h h2 _ rfl) (fun h h2 hG hf => by show 60 - fN h2 18 = 60 - fN h 18; rw [fN_keep hG hf ⟨_, rfl⟩ rfl]) rfl tsQ_ok tsT_k) (gh_cons (G_seg (fun h h2 => sJ_fr h h2 _ rfl) (fun h h2 hG hf => by show 60 - fN h2 18 = 60 - fN h 18; rw [fN_keep hG hf ⟨_, rfl⟩ rfl]) rfl tsQ_ok tsB0_k) (gh_cons (G_call (N := eM197) rfl tsI_k (fun h ρ vs hG hJ hK hB hF hA => by
    have e1 := arg1 hA
    subst e1
    have hK : KS t b m 1 (-2) 0 h := hK
    obtain ⟨op, md, dp, L, o, k1, k2⟩ := hK
    obtain ⟨r, t1, t2⟩ := in_trm hG (by decide) k2
    refine ⟨some (cI r), h, Trm_le (by decide) t1, hG, Fr.rf, hJ, ?_⟩
    rcases t2 with ⟨t2, t3⟩ | ⟨t2, t3⟩
    · exact ⟨(some 1, 99, 0), List.mem_of_getElem? (i := 0) rfl, ⟨r, rfl, t2⟩, trivial, (fun z => by cases z), (fun z => by cases z)⟩
    · exact ⟨(some 0, 5, 0), List.mem_of_getElem? (i := 1) rfl, ⟨r, rfl, t2⟩, ⟨op, md, dp, L, o, k1, k2, t3⟩, (fun z => by cases z), (fun z => by cases z)⟩)) (gh_cons (G_seg (fun h h2 => sJ_fr h h2 _ rfl) (fun h h2 hG hf => by show 60 - fN h2 18 = 60 - fN h 18; rw [fN_keep hG hf ⟨_, rfl⟩ rfl]) rfl tsQ_ok tsI1_k) (gh_cons (G_seg (WS := []) (fun h h2 => sJ_e h h2) (fun h h2 hG hf => by show 60 - fN h2 18 = 60 - fN h 18; rw [fN_keep hG hf ⟨_, rfl⟩ rfl]) rfl tsQE_ok tsI0_k) (gh_cons (G_call (N := eM235) rfl tsJ_k (fun h ρ vs hG hJ hK hB hF hA => by
    obtain ⟨a, e1, e2⟩ := arg2 hA
    subst e1
    have e2 : a.toInt = 1 := e2
    obtain ⟨op, md, dp, L, o, k1, k2, k3⟩ := hK
    obtain ⟨h2, op2, dp2, L2, t1, t2, t3, t4, t5, t6, t7, t8⟩ := se_trm ht (l := a) (by omega) (by decide) hG hJ k2
    have h0 : op2 = 0 := by
      rcases t8 with t8 | t8
      · exact t8
      · by_cases hz : op2 = 0
        · exact hz
        · exfalso
          have s1 : (str 11).toInt = 3 := rfl
          have s2 : (str 12).toInt = 2 := rfl
          have s3 : (str 13).toInt = 1 := rfl
          rcases KX_ok t5 (op2 - 1) (by omega) with e | e | e | e
          · rw [e] at t8; omega
          · rw [e] at t8; omega
          · rw [e] at t8; omega
          · exact k3 (op2 - 1) (by omega) e
    subst h0
    exact ⟨none, h2, Trm_le (by decide) t1, t2, Fr.tr (W2 := kTw) rfl Fr.rf t3, t4, (none, 6, 0), List.mem_singleton.mpr rfl, trivial, ⟨md, dp2, L2, o, k1, t5⟩, (fun z => by cases z), (fun z => by cases z)⟩)) (gh_cons (G_seg (fun h h2 => sJ_fr h h2 _ rfl) (fun h h2 hG hf => by show 60 - fN h2 18 = 60 - fN h 18; rw [fN_keep hG hf ⟨_, rfl⟩ rfl]) rfl tsQ_ok tsJ1_k) (gh_nil)))))))))))))))))) hG hJ hk
  refine ⟨r, h2, t1, t2, t3, t4, ?_⟩
  rcases List.mem_cons.mp o1 with e1 | o1
  · subst e1
    exact Or.inl o2
  · have e1 := List.mem_singleton.mp o1
    subst e1
    exact Or.inr ⟨o2, o3⟩
