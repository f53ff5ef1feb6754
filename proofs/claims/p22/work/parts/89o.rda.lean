/-! GHOSTS, 15: a LAW's text (printed by wip/hand/gen89n.py) -/
abbrev kS1 : aW := [(170, 1), (170, 14), (170, 15), (170, 16)]
abbrev kRa : aW := [(170, 1), (170, 14), (170, 15), (170, 16), (170, 18), (170, 19), (170, 20), (170, 22), (172, 1000), (173, 1000), (174, 1000), (175, 1000), (180, 1000)]
def rJ (t : Nat) : Nat → List cC → Prop
  | 0 => fun h => fv h 17 t ∧ ∃ cc : Nat → Int32, h[175]? = some (.inr (.inl (0, 6, cc))) ∧ (cc t).toInt = 0
  | 1 => KC t 0
  | _ => fun _ => True
theorem rJ_fr {t : Nat} (h h2 : List cC) (i : Nat) (hi : Nat.beq i 0 = false) (hG : HG TT [] h) (hf : Fr PT9 kS1 h h2) (hk : rJ t i h) : rJ t i h2 := match i, hi, hk with
  | 0, hi, _ => by cases hi
  | 1, _, hk => KC_fr hf ⟨rfl, rfl, rfl, rfl, rfl, rfl, rfl, rfl⟩ hk
  | _ + 2, _, _ => trivial
theorem J9_173 {h : List cC} {c : cC} (hJ : J9 h) : J9 (h.set 173 c) := J9_ok h _ (fun k hk => List.getElem?_set_ne (Ne.symm (IR_ne hk).2.2)) hJ
abbrev raQ : aQ := mkQ P39 kS1 [zn156] 3000 2
theorem raQ_ok : Qok P9 kS1 28 raQ := mkQ_ok J9_ok (d := 26) (cs_cons (Con_le (by decide) zt156) (cs_nil)) 3000 2
abbrev ra0 : ghL := ((0, [(0, .inl [170])], [], [], [], []), 0, 9, 0)
abbrev raP : ghL := ((30, [(0, .inl [170])], [], [], [], []), 1, 8, 0)
abbrev raA : ghL := ((31, [(0, .inl [170])], [.inl [170]], [], [], []), 1, 7, 0)
abbrev raA1 : ghL := ((34, [(0, .inl [170])], [.inr (.inl (.inl 1))], [], [], []), 1, 6, 0)
abbrev raA0 : ghL := ((34, [(0, .inl [170])], [.inr (.inl (.inl 0))], [], [], []), 99, 6, 0)
abbrev raB : ghL := ((35, [(0, .inl [170]), (1, .inr (.inl (.inl 1)))], [], [], [], []), 1, 5, 40)
abbrev raA2 : ghL := ((59, [(0, .inl [170])], [.inl [170]], [], [], []), 1, 5, 30)
abbrev raA3 : ghL := ((62, [(0, .inl [170])], [.inr (.inl (.inl 1))], [], [], []), 1, 5, 50)
abbrev raA4 : ghL := ((62, [(0, .inl [170])], [.inr (.inl (.inl 0))], [], [], []), 99, 4, 0)
abbrev raL : List ghL := [ra0, raP, raA, raA1, raA0, raB, raA2, raA3, raA4]
abbrev raO : List ghO := [(some 0, 99), (some 1, 99), (some 0, 1), (some 1, 1)]
set_option maxRecDepth 1000000 in
theorem raP_k : chkL P39 kS1 raQ eM228 0 (ghSel raP.2.1 raL) (ghOut raP.2.1 raO) 3000 (ghA raP) = true := by decide +kernel
set_option maxRecDepth 1000000 in
theorem raA_k : chkC eM228 raL 164 [(some 1, 1, 0), (some 0, 99, 0)] raA = true := by decide +kernel
set_option maxRecDepth 1000000 in
theorem raA1_k : chkL P39 kS1 raQ eM228 0 (ghSel raA1.2.1 raL) (ghOut raA1.2.1 raO) 3000 (ghA raA1) = true := by decide +kernel
set_option maxRecDepth 1000000 in
theorem raA0_k : chkL P39 kS1 raQ eM228 0 (ghSel raA0.2.1 raL) (ghOut raA0.2.1 raO) 3000 (ghA raA0) = true := by decide +kernel
set_option maxRecDepth 1000000 in
theorem raB_k : chkL P39 kS1 raQ eM228 0 (ghSel raB.2.1 raL) (ghOut raB.2.1 raO) 3000 (ghA raB) = true := by decide +kernel
set_option maxRecDepth 1000000 in
theorem raA2_k : chkC eM228 raL 164 [(some 1, 1, 2), (some 0, 99, 0)] raA2 = true := by decide +kernel
set_option maxRecDepth 1000000 in
theorem raA3_k : chkL P39 kS1 raQ eM228 0 (ghSel raA3.2.1 raL) (ghOut raA3.2.1 raO) 3000 (ghA raA3) = true := by decide +kernel
set_option maxRecDepth 1000000 in
theorem raA4_k : chkL P39 kS1 raQ eM228 0 (ghSel raA4.2.1 raL) (ghOut raA4.2.1 raO) 3000 (ghA raA4) = true := by decide +kernel
theorem ra_ok {t : Nat} (ht : t < 6) {h : List cC} (hG : HG TT [] h) (hJ : J9 h) (hk : fv h 17 t ∧ ∃ cc : Nat → Int32, h[175]? = some (.inr (.inl (0, 6, cc))) ∧ (cc t).toInt = 0) : ∃ (r : Int32) (h2 : List cC), Trm 29 228 [cR 170] h (some (cI r)) h2 ∧ HG TT [] h2 ∧ Fr PT9 kRa h h2 ∧ J9 h2 ∧ (r.toInt = 0 ∨ r.toInt = 1) := by
  obtain ⟨r, h2, t1, t2, t3, t4, o, o1, o2, o3⟩ := G_of (JF := rJ t) (mu := fun h => 12 - fN h 20) (WA := kRa) (d := 28) (mi := 228) (N := eM228) rfl (outs := raO) (Ls := raL.tail) (i := 0) (p := 9) (r := 0) rfl (gh_cons (fun S hS hJ hK => by
    obtain ⟨Spc, Sls, Sst, h⟩ := S
    obtain ⟨e1, hG, ρ, hB, hR, hL, hSt, hF⟩ := hS
    dsimp only at e1 hG hB hR hL hSt hF hJ hK
    have e2 : Sst = [] := by
      cases Sst with
      | nil => rfl
      | cons _ _ => exact hSt.elim
    have c0 := vR hL (j := 0) (k := 170) (List.mem_of_getElem? (i := 0) rfl)
    subst e1 e2
    obtain ⟨vs, m1, m3, m4, m5, m6, m7⟩ := mo_at hG
    have hcl : classes[12]? = some classes[12] := rfl
    obtain ⟨k1, cc, k2, k3⟩ := hK
    obtain ⟨g, r3, _⟩ := HG_row hG (k := 173) (kd := 0) (n := 7) (d := (0, 400)) rfl
    obtain ⟨f, r2, _⟩ := HG_row hG (k := 172) (kd := 0) (n := 2400) (d := (-2147483648, 2147483647)) rfl
    obtain ⟨gc, r4, _⟩ := HG_row hG (k := 174) (kd := 0) (n := 216) (d := (0, 400)) rfl
    obtain ⟨o, r0, _⟩ := HG_row hG (k := 180) (kd := 0) (n := 400) (d := (-2147483648, 2147483647)) rfl
    obtain ⟨x, x1, x2⟩ := fv_at m1 k1
    obtain ⟨j1, j2⟩ := in_B (n := 7) x2 (by omega)
    obtain ⟨w20, z20, _⟩ := HG_mf hG (j := 20) (b := (0, 32)) rfl
    obtain ⟨y20, a20, _⟩ := fv_at m1 ⟨w20, z20, rfl⟩
    have l20 : 20 < vs.length := (List.getElem?_eq_some_iff.mp a20).1
    obtain ⟨w14, z14, _⟩ := HG_mf hG (j := 14) (b := (0, 400)) rfl
    obtain ⟨y14, a14, _⟩ := fv_at m1 ⟨w14, z14, rfl⟩
    have l14 : 14 < vs.length := (List.getElem?_eq_some_iff.mp a14).1
    obtain ⟨w15, z15, _⟩ := HG_mf hG (j := 15) (b := (-2147483648, 2147483647)) rfl
    obtain ⟨y15, a15, _⟩ := fv_at m1 ⟨w15, z15, rfl⟩
    have l15 : 15 < vs.length := (List.getElem?_eq_some_iff.mp a15).1
    obtain ⟨w18, z18, _⟩ := HG_mf hG (j := 18) (b := (0, 60)) rfl
    obtain ⟨y18, a18, _⟩ := fv_at m1 ⟨w18, z18, rfl⟩
    have l18 : 18 < vs.length := (List.getElem?_eq_some_iff.mp a18).1
    have s9 : ∀ st : List cV, cOne (calF (Trm 28)) eM228 none (9, Sls, cI (Int32.ofInt 0) :: cI x :: cR 173 :: st, h) = some (10, Sls, st, (h.set 173 (.inr (.inl (0, 7, upd g t (Int32.ofInt 0)))))) := fun st => by
      have := o_iast (call := calF (Trm 28)) (M := eM228) (sc := none) (pc := 9) (ls := Sls) (st := st) (x := Int32.ofInt 0) rfl r3 j1
      rw [j2] at this
      exact this
    have g0 : HG TT [] (h.set 173 (.inr (.inl (0, 7, upd g t (Int32.ofInt 0))))) := HG_putI (k := 173) (kd := 0) (n := 7) (d := (0, 400)) (gs := []) (f := g) (i := t) (x := Int32.ofInt 0) hG rfl r3 ⟨by decide, by decide⟩ (fun q hq => by cases hq) (fun j => by
      by_cases hj : j = t
      · exact Or.inr ⟨hj, by rw [hj, pk_us]⟩
      · exact Or.inl (pk_un hj))
    have n0 : (h.set 173 (.inr (.inl (0, 7, upd g t (Int32.ofInt 0)))))[170]? = some (.inl (12, vs)) := rw_ne (by decide) m1
    have n1 : ((h.set 173 (.inr (.inl (0, 7, upd g t (Int32.ofInt 0))))).set 170 (.inl (12, (vs.set 20 (cI (Int32.ofInt 0))))))[170]? = some (.inl (12, (vs.set 20 (cI (Int32.ofInt 0))))) := rw_eq n0
    have n2 : (((h.set 173 (.inr (.inl (0, 7, upd g t (Int32.ofInt 0))))).set 170 (.inl (12, (vs.set 20 (cI (Int32.ofInt 0)))))).set 170 (.inl (12, ((vs.set 20 (cI (Int32.ofInt 0))).set 14 (cI (Int32.ofInt 0))))))[170]? = some (.inl (12, ((vs.set 20 (cI (Int32.ofInt 0))).set 14 (cI (Int32.ofInt 0))))) := rw_eq n1
    have n3 : ((((h.set 173 (.inr (.inl (0, 7, upd g t (Int32.ofInt 0))))).set 170 (.inl (12, (vs.set 20 (cI (Int32.ofInt 0)))))).set 170 (.inl (12, ((vs.set 20 (cI (Int32.ofInt 0))).set 14 (cI (Int32.ofInt 0)))))).set 170 (.inl (12, (((vs.set 20 (cI (Int32.ofInt 0))).set 14 (cI (Int32.ofInt 0))).set 15 (cI (Int32.ofInt 0))))))[170]? = some (.inl (12, (((vs.set 20 (cI (Int32.ofInt 0))).set 14 (cI (Int32.ofInt 0))).set 15 (cI (Int32.ofInt 0))))) := rw_eq n2
    have n4 : (((((h.set 173 (.inr (.inl (0, 7, upd g t (Int32.ofInt 0))))).set 170 (.inl (12, (vs.set 20 (cI (Int32.ofInt 0)))))).set 170 (.inl (12, ((vs.set 20 (cI (Int32.ofInt 0))).set 14 (cI (Int32.ofInt 0)))))).set 170 (.inl (12, (((vs.set 20 (cI (Int32.ofInt 0))).set 14 (cI (Int32.ofInt 0))).set 15 (cI (Int32.ofInt 0)))))).set 170 (.inl (12, ((((vs.set 20 (cI (Int32.ofInt 0))).set 14 (cI (Int32.ofInt 0))).set 15 (cI (Int32.ofInt 0))).set 18 (cI (Int32.ofInt 0))))))[170]? = some (.inl (12, ((((vs.set 20 (cI (Int32.ofInt 0))).set 14 (cI (Int32.ofInt 0))).set 15 (cI (Int32.ofInt 0))).set 18 (cI (Int32.ofInt 0))))) := rw_eq n3
    have b14 : (vs.set 20 (cI (Int32.ofInt 0)))[14]? = some (cI y14) := by
      rw [List.getElem?_set_ne (by decide)]
      exact a14
    have b15 : ((vs.set 20 (cI (Int32.ofInt 0))).set 14 (cI (Int32.ofInt 0)))[15]? = some (cI y15) := by
      rw [List.getElem?_set_ne (by decide), List.getElem?_set_ne (by decide)]
      exact a15
    have b18 : (((vs.set 20 (cI (Int32.ofInt 0))).set 14 (cI (Int32.ofInt 0))).set 15 (cI (Int32.ofInt 0)))[18]? = some (cI y18) := by
      rw [List.getElem?_set_ne (by decide), List.getElem?_set_ne (by decide), List.getElem?_set_ne (by decide)]
      exact a18
    have g1 : HG TT [] ((h.set 173 (.inr (.inl (0, 7, upd g t (Int32.ofInt 0))))).set 170 (.inl (12, (vs.set 20 (cI (Int32.ofInt 0)))))) := HG_mo g0 n0 (j := 20) (b := (0, 32)) rfl ⟨by decide, by decide⟩
    have g2 : HG TT [] (((h.set 173 (.inr (.inl (0, 7, upd g t (Int32.ofInt 0))))).set 170 (.inl (12, (vs.set 20 (cI (Int32.ofInt 0)))))).set 170 (.inl (12, ((vs.set 20 (cI (Int32.ofInt 0))).set 14 (cI (Int32.ofInt 0)))))) := HG_mo g1 n1 (j := 14) (b := (0, 400)) rfl ⟨by decide, by decide⟩
    have g3 : HG TT [] ((((h.set 173 (.inr (.inl (0, 7, upd g t (Int32.ofInt 0))))).set 170 (.inl (12, (vs.set 20 (cI (Int32.ofInt 0)))))).set 170 (.inl (12, ((vs.set 20 (cI (Int32.ofInt 0))).set 14 (cI (Int32.ofInt 0)))))).set 170 (.inl (12, (((vs.set 20 (cI (Int32.ofInt 0))).set 14 (cI (Int32.ofInt 0))).set 15 (cI (Int32.ofInt 0)))))) := HG_mo g2 n2 (j := 15) (b := (-2147483648, 2147483647)) rfl ⟨by decide, by decide⟩
    have g4 : HG TT [] (((((h.set 173 (.inr (.inl (0, 7, upd g t (Int32.ofInt 0))))).set 170 (.inl (12, (vs.set 20 (cI (Int32.ofInt 0)))))).set 170 (.inl (12, ((vs.set 20 (cI (Int32.ofInt 0))).set 14 (cI (Int32.ofInt 0)))))).set 170 (.inl (12, (((vs.set 20 (cI (Int32.ofInt 0))).set 14 (cI (Int32.ofInt 0))).set 15 (cI (Int32.ofInt 0)))))).set 170 (.inl (12, ((((vs.set 20 (cI (Int32.ofInt 0))).set 14 (cI (Int32.ofInt 0))).set 15 (cI (Int32.ofInt 0))).set 18 (cI (Int32.ofInt 0)))))) := HG_mo g3 n3 (j := 18) (b := (0, 60)) rfl ⟨by decide, by decide⟩
    have v17 : fv (((((h.set 173 (.inr (.inl (0, 7, upd g t (Int32.ofInt 0))))).set 170 (.inl (12, (vs.set 20 (cI (Int32.ofInt 0)))))).set 170 (.inl (12, ((vs.set 20 (cI (Int32.ofInt 0))).set 14 (cI (Int32.ofInt 0)))))).set 170 (.inl (12, (((vs.set 20 (cI (Int32.ofInt 0))).set 14 (cI (Int32.ofInt 0))).set 15 (cI (Int32.ofInt 0)))))).set 170 (.inl (12, ((((vs.set 20 (cI (Int32.ofInt 0))).set 14 (cI (Int32.ofInt 0))).set 15 (cI (Int32.ofInt 0))).set 18 (cI (Int32.ofInt 0)))))) 17 t := (fv_ne n3 (by decide) (fv_ne n2 (by decide) (fv_ne n1 (by decide) (fv_ne n0 (by decide) (fv_row (by decide) k1)))))
    have v20 : fv (((((h.set 173 (.inr (.inl (0, 7, upd g t (Int32.ofInt 0))))).set 170 (.inl (12, (vs.set 20 (cI (Int32.ofInt 0)))))).set 170 (.inl (12, ((vs.set 20 (cI (Int32.ofInt 0))).set 14 (cI (Int32.ofInt 0)))))).set 170 (.inl (12, (((vs.set 20 (cI (Int32.ofInt 0))).set 14 (cI (Int32.ofInt 0))).set 15 (cI (Int32.ofInt 0)))))).set 170 (.inl (12, ((((vs.set 20 (cI (Int32.ofInt 0))).set 14 (cI (Int32.ofInt 0))).set 15 (cI (Int32.ofInt 0))).set 18 (cI (Int32.ofInt 0)))))) 20 ((0 : Nat) : Int) := (fv_ne n3 (by decide) (fv_ne n2 (by decide) (fv_ne n1 (by decide) (fv_eq n0 (i := 20) (by first | exact l20 | (simp only [List.length_set]; exact l20)) (Int32.ofInt 0)))))
    have v18 : fv (((((h.set 173 (.inr (.inl (0, 7, upd g t (Int32.ofInt 0))))).set 170 (.inl (12, (vs.set 20 (cI (Int32.ofInt 0)))))).set 170 (.inl (12, ((vs.set 20 (cI (Int32.ofInt 0))).set 14 (cI (Int32.ofInt 0)))))).set 170 (.inl (12, (((vs.set 20 (cI (Int32.ofInt 0))).set 14 (cI (Int32.ofInt 0))).set 15 (cI (Int32.ofInt 0)))))).set 170 (.inl (12, ((((vs.set 20 (cI (Int32.ofInt 0))).set 14 (cI (Int32.ofInt 0))).set 15 (cI (Int32.ofInt 0))).set 18 (cI (Int32.ofInt 0)))))) 18 ((0 : Nat) : Int) := (fv_eq n3 (i := 18) (by first | exact l18 | (simp only [List.length_set]; exact l18)) (Int32.ofInt 0))
    refine ⟨(30, Sls, [], (((((h.set 173 (.inr (.inl (0, 7, upd g t (Int32.ofInt 0))))).set 170 (.inl (12, (vs.set 20 (cI (Int32.ofInt 0)))))).set 170 (.inl (12, ((vs.set 20 (cI (Int32.ofInt 0))).set 14 (cI (Int32.ofInt 0)))))).set 170 (.inl (12, (((vs.set 20 (cI (Int32.ofInt 0))).set 14 (cI (Int32.ofInt 0))).set 15 (cI (Int32.ofInt 0)))))).set 170 (.inl (12, ((((vs.set 20 (cI (Int32.ofInt 0))).set 14 (cI (Int32.ofInt 0))).set 15 (cI (Int32.ofInt 0))).set 18 (cI (Int32.ofInt 0))))))), Go.step (o_aload_n (i := 0) rfl c0) (Go.step (o_get rfl rfl rfl m1 m4) (Go.step (o_aload_n (i := 0) rfl c0) (Go.step (o_get rfl rfl rfl m1 x1) (Go.step (o_step rfl rfl) (Go.step (s9 _) (Go.step (o_aload_n (i := 0) rfl c0) (Go.step (o_step rfl rfl) (Go.step (o_put rfl rfl rfl n0 a20 hcl rfl rfl) (Go.step (o_aload_n (i := 0) rfl c0) (Go.step (o_step rfl rfl) (Go.step (o_put rfl rfl rfl n1 b14 hcl rfl rfl) (Go.step (o_aload_n (i := 0) rfl c0) (Go.step (o_step rfl rfl) (Go.step (o_put rfl rfl rfl n2 b15 hcl rfl rfl) (Go.step (o_aload_n (i := 0) rfl c0) (Go.step (o_step rfl rfl) (Go.step (o_put rfl rfl rfl n3 b18 hcl rfl rfl) (Go.rf)))))))))))))))))), (Fr_mo (Fr_mo (Fr_mo (Fr_mo (Fr_rw Fr.rf r3 rfl rfl) n0 rfl) n1 rfl) n2 rfl) n3 rfl), J9_mo (J9_mo (J9_mo (J9_mo (J9_173 hJ)))), Or.inl ⟨raP, List.mem_of_getElem? (i := 1) rfl, ⟨rfl, g4, ρ, hB, ⟨hR.1, fun q hq => by cases hq⟩, hL, trivial, (fun q hq => by cases hq)⟩, ⟨0, 0, Nat.le_refl _, Nat.le_refl _, by decide, 0, 0, o, f, _, gc, cc, v17, v18, v20, by decide, by decide, (rw_ne (by decide) (rw_ne (by decide) (rw_ne (by decide) (rw_ne (by decide) (rw_ne (by decide) r0))))), (rw_ne (by decide) (rw_ne (by decide) (rw_ne (by decide) (rw_ne (by decide) (rw_ne (by decide) r2))))), (rw_ne (by decide) (rw_ne (by decide) (rw_ne (by decide) (rw_ne (by decide) (rw_eq r3))))), (rw_ne (by decide) (rw_ne (by decide) (rw_ne (by decide) (rw_ne (by decide) (rw_ne (by decide) r4))))), (rw_ne (by decide) (rw_ne (by decide) (rw_ne (by decide) (rw_ne (by decide) (rw_ne (by decide) k2))))), by rw [pk_us]; rfl, k3, fun j hj hc => by omega⟩, Prod.Lex.left _ _ (by decide)⟩⟩
) (gh_cons (G_seg (fun h h2 => rJ_fr h h2 _ rfl) (fun h h2 hG hf => by show 12 - fN h2 20 = 12 - fN h 20; rw [fN_keep hG hf ⟨_, rfl⟩ rfl]) rfl raQ_ok raP_k) (gh_cons (G_call (N := eM164) rfl raA_k (fun h ρ vs hG hJ hK hB hF hA => by
    have e1 := arg1 hA
    subst e1
    obtain ⟨r, h2, t1, t2, t3, t4, t5⟩ := ch_ok ht hG hJ hK
    refine ⟨r, h2, Trm_le (by decide) t1, t2, Fr.tr (W2 := kUc) rfl Fr.rf t3, t4, ?_⟩
    rcases t5 with t5 | ⟨t5, cl, ln, t6, t7⟩
    · exact ⟨(some 0, 99, 0), List.mem_of_getElem? (i := 1) rfl, t5, trivial, (fun z => by cases z), (fun z => by cases z)⟩
    · exact ⟨(some 1, 1, 0), List.mem_of_getElem? (i := 0) rfl, t5, ⟨cl, ln, Nat.zero_le _, t7⟩, (fun z => by cases z), (fun z => by cases z)⟩)) (gh_cons (G_seg (fun h h2 => rJ_fr h h2 _ rfl) (fun h h2 hG hf => by show 12 - fN h2 20 = 12 - fN h 20; rw [fN_keep hG hf ⟨_, rfl⟩ rfl]) rfl raQ_ok raA1_k) (gh_cons (G_seg (fun h h2 => rJ_fr h h2 _ rfl) (fun h h2 hG hf => by show 12 - fN h2 20 = 12 - fN h 20; rw [fN_keep hG hf ⟨_, rfl⟩ rfl]) rfl raQ_ok raA0_k) (gh_cons (G_seg (fun h h2 => rJ_fr h h2 _ rfl) (fun h h2 hG hf => by show 12 - fN h2 20 = 12 - fN h 20; rw [fN_keep hG hf ⟨_, rfl⟩ rfl]) rfl raQ_ok raB_k) (gh_cons (G_call (N := eM164) rfl raA2_k (fun h ρ vs hG hJ hK hB hF hA => by
    have e1 := arg1 hA
    subst e1
    obtain ⟨cl, ln, a1, a2, a3, a4⟩ := hK
    have z1 : fN h 20 = ln := by
      obtain ⟨md, b, o, f, g, gc, cc, _, _, k3, _⟩ := a4
      exact fN_of k3
    obtain ⟨r, h2, t1, t2, t3, t4, t5⟩ := ch_ok (l0 := ln) ht hG hJ ⟨cl, ln, Nat.le_refl _, a2, a3, a4⟩
    refine ⟨r, h2, Trm_le (by decide) t1, t2, Fr.tr (W2 := kUc) rfl Fr.rf t3, t4, ?_⟩
    rcases t5 with t5 | ⟨t5, cl2, ln2, t6, t7, t8, t9⟩
    · exact ⟨(some 0, 99, 0), List.mem_of_getElem? (i := 1) rfl, t5, trivial, (fun z => by cases z), (fun z => by cases z)⟩
    · have z2 : fN h2 20 = ln2 := by
        obtain ⟨md, b, o, f, g, gc, cc, _, _, k3, _⟩ := t9
        exact fN_of k3
      exact ⟨(some 1, 1, 2), List.mem_of_getElem? (i := 0) rfl, t5, ⟨cl2, ln2, Nat.zero_le _, t7, t8, t9⟩, (fun z => by cases z), (fun _ => by show 12 - fN h2 20 < 12 - fN h 20; omega)⟩)) (gh_cons (G_seg (fun h h2 => rJ_fr h h2 _ rfl) (fun h h2 hG hf => by show 12 - fN h2 20 = 12 - fN h 20; rw [fN_keep hG hf ⟨_, rfl⟩ rfl]) rfl raQ_ok raA3_k) (gh_cons (G_seg (fun h h2 => rJ_fr h h2 _ rfl) (fun h h2 hG hf => by show 12 - fN h2 20 = 12 - fN h 20; rw [fN_keep hG hf ⟨_, rfl⟩ rfl]) rfl raQ_ok raA4_k) (gh_nil)))))))))) hG hJ hk
  have key : ∀ c : Int, retV [] (ghR (some c)) r → ∃ y : Int32, r = some (cI y) ∧ y.toInt = c := fun c hc => ret_c hc
  rcases List.mem_cons.mp o1 with e1 | o1
  · subst e1
    obtain ⟨y, y1, y2⟩ := key _ o2
    subst y1
    exact ⟨y, h2, t1, t2, t3, t4, Or.inl y2⟩
  · rcases List.mem_cons.mp o1 with e1 | o1
    · subst e1
      obtain ⟨y, y1, y2⟩ := key _ o2
      subst y1
      exact ⟨y, h2, t1, t2, t3, t4, Or.inr y2⟩
    · rcases List.mem_cons.mp o1 with e1 | o1
      · subst e1
        obtain ⟨y, y1, y2⟩ := key _ o2
        subst y1
        exact ⟨y, h2, t1, t2, t3, t4, Or.inl y2⟩
      · have e1 := List.mem_singleton.mp o1
        subst e1
        obtain ⟨y, y1, y2⟩ := key _ o2
        subst y1
        exact ⟨y, h2, t1, t2, t3, t4, Or.inr y2⟩
