/-! THE WAY, 9: goesOn, whole -/
abbrev goW : aW := [(170, 24), (170, 32), (170, 33), (181, 1000), (182, 1000), (188, 1000), (189, 1000), (190, 1000), (191, 1000), (192, 1000), (193, 1000), (194, 1000), (195, 1000), (196, 1000), (197, 1000)]
def TN (fw fm fn f : Nat → Int32) (mn : Nat) (h : List cC) : Prop := h[184]? = some (.inr (.inl (0, 31, fw))) ∧ h[185]? = some (.inr (.inl (0, 31, fm))) ∧ h[186]? = some (.inr (.inl (0, 31, fn))) ∧ h[183]? = some (.inr (.inl (0, 230, f))) ∧ fv h 31 mn ∧ mn ≤ 31 ∧ ∀ t : Nat, t < mn → fw t ≠ fm t
theorem go_ok {fw fm fn f : Nat → Int32} {mn FO : Nat} {lw fi si : Int32} {h : List cC} (hG : HG TT [] h) (hJ : J9 h) (hk : TN fw fm fn f mn h) (hlw : 0 ≤ lw.toInt ∧ lw.toInt ≤ 5) (hfi : fi.toInt = FO) (hFO : FO < 1024) (hsi : 0 ≤ si.toInt ∧ si.toInt ≤ 1023) : ∃ h2 : List cC, Trm 8 185 [cR 170, cI lw, cI fi, cI si] h none h2 ∧ HG TT [] h2 ∧ Fr PT9 goW h h2 ∧ J9 h2 ∧ RX fw fm fn f FO mn h2 := by
  obtain ⟨t1, t2, t3, t4, t5, t6, t7⟩ := hk
  have hB : okB [lw.toInt, fi.toInt, si.toInt] goB := bcons ⟨by show (0 : Int) ≤ _; omega, by show _ ≤ (5 : Int); omega⟩ (bcons ⟨by show (0 : Int) ≤ _; omega, by show _ ≤ (1023 : Int); omega⟩ (bcons ⟨by show (0 : Int) ≤ _; omega, by show _ ≤ (1023 : Int); omega⟩ bnil))
  -- rowFrom is all 0
  have hQa : Qok P9 goWa 7 (mkQ P39 goWa [] 3000 0) := Qok_le (by decide) (mkQ_ok J9_ok (d := 0) cs_nil 3000 0)
  have hOa : ∀ l ∈ [go0, go13], Obl P9 goWa 7 eM185 3 [] ([go0, go13] ++ [go35]) l := gh_cons (chkL_ok J9_ok hQa go0_k) (gh_cons (chkL_ok J9_ok hQa go13_k) gh_nil)
  obtain ⟨S1, a1, a2, l1, a3, ρ1, a4, a5, a6, a7, a8, a9, a10⟩ := Obl_un hOa (ρ0 := [lw.toInt, fi.toInt, si.toInt]) rfl (h0 := h) _ go0 List.mem_cons_self [lw.toInt, fi.toInt, si.toInt] (0, [(0, cR 170), (1, cI lw), (2, cI fi), (3, cI si)], [], h) rfl rfl hG hB ⟨List.prefix_rfl, fun q hq => by cases hq⟩ (fun q hq => by
    simp only [List.mem_cons, List.not_mem_nil, or_false] at hq
    rcases hq with rfl | rfl | rfl | rfl
    · exact ⟨_, rfl, 170, List.mem_singleton.mpr rfl, rfl⟩
    · exact ⟨_, rfl, vxs rfl⟩
    · exact ⟨_, rfl, vxs rfl⟩
    · exact ⟨_, rfl, vxs rfl⟩) trivial (fun q hq => by cases hq) ⟨Fr.rf, hJ⟩
  have e := List.mem_singleton.mp a3
  subst e
  obtain ⟨S1pc, ls1, st1, h1⟩ := S1
  dsimp only at a1 a2 a4 a5 a7 a8 a9 a10
  have e2 : st1 = [] := by
    cases st1 with
    | nil => rfl
    | cons _ _ => exact a9.elim
  subst a4 e2
  have F1 : Fr PT9 goWa h h1 := a2.1
  have J1 : J9 h1 := a2.2
  obtain ⟨fr, r8, _⟩ := HG_row a5 (k := 188) (kd := 0) (n := 10240) (d := (0, 99)) rfl
  have hz : ∀ j : Nat, j < 10240 → (fr j).toInt = 0 := fun j hj => by
    obtain ⟨kd, n, g, z, b1, b2, b3⟩ := a7.2 _ (List.mem_singleton.mpr rfl)
    have b1 : h1[188]? = some (.inr (.inl (kd, n, g))) := b1
    rw [r8] at b1
    cases b1
    have b2 : z = 10240 := b2
    have b4 := b3 j (by omega)
    have b5 : (0 : Int) ≤ (fr j).toInt := b4.1
    have b6 : (fr j).toInt ≤ (0 : Int) := b4.2
    omega
  have v32 : fv h1 32 (FO : Nat) := by
    obtain ⟨ci, us, x, b1, b2, b3⟩ := vF a10 (k := 170) (j := 32) (i := 1) (c := 0) (List.mem_singleton.mpr rfl) (at_mono a7.1 (rfl : [lw.toInt, fi.toInt, si.toInt][1]? = some fi.toInt))
    exact ⟨x, fI_at b1 b2, by omega⟩
  -- the people, the talks
  have hQb : Qok P9 goWb 7 (mkQ P39 goWb [] 3000 1) := Qok_le (by decide) (mkQ_ok J9_ok (d := 0) cs_nil 3000 1)
  have hOb : ∀ l ∈ [gp35, gp38, gp136], Obl P9 goWb 7 eM185 3 [] ([gp35, gp38, gp136] ++ [gp162]) l := gh_cons (chkL_ok J9_ok hQb gp35_k) (gh_cons (chkL_ok J9_ok hQb gp38_k) (gh_cons (chkL_ok J9_ok hQb gp136_k) gh_nil))
  obtain ⟨S2, y1, y2, l2, y3, ρ2, y4, y5, y6, y7, y8, y9, y10⟩ := Obl_un hOb (ρ0 := [lw.toInt, fi.toInt, si.toInt]) rfl (h0 := h1) _ gp35 List.mem_cons_self ρ1 (35, ls1, [], h1) rfl rfl a5 a6 ⟨a7.1, fun q hq => by cases hq⟩ a8 trivial (fun q hq => by cases hq) ⟨Fr.rf, J1⟩
  have e := List.mem_singleton.mp y3
  subst e
  obtain ⟨S2pc, ls2, st2, h2⟩ := S2
  dsimp only at y1 y2 y4 y5 y7 y8 y9 y10
  have e2 : st2 = [] := by
    cases st2 with
    | nil => rfl
    | cons _ _ => exact y9.elim
  subst y4 e2
  have F2 : Fr PT9 goWb h1 h2 := y2.1
  have J2 : J9 h2 := y2.2
  obtain ⟨ft, r6, _⟩ := HG_row y5 (k := 196) (kd := 2) (n := 31) (d := (0, 1)) rfl
  have R2 : RX fw fm fn f FO mn h2 := ⟨⟨Fr_row F2 rfl (Fr_row F1 rfl t1), Fr_row F2 rfl (Fr_row F1 rfl t2), Fr_row F2 rfl (Fr_row F1 rfl t3), Fr_row F2 rfl (Fr_row F1 rfl t4), fv_keep F2 rfl (fv_keep F1 rfl t5), fv_keep F2 rfl v32, t6, hFO, t7⟩, ft, fr, r6, Fr_row F2 rfl r8, fun p r hp hr h3 => by
    have := hz (1024 * p + r) (by omega)
    omega⟩
  have d0 := vR y8 (j := 0) (k := 170) (List.mem_of_getElem? (i := 0) rfl)
  obtain ⟨u1, d1, w1⟩ := vL y8 (j := 1) (i := 0) (c := 0) (List.mem_of_getElem? (i := 1) rfl) (at_mono y7.1 (rfl : [lw.toInt, fi.toInt, si.toInt][0]? = some lw.toInt))
  have e1 : u1 = lw := Int32.toInt_inj.mp (by omega)
  subst e1
  obtain ⟨v4, d4, u4, w4, w5⟩ := y8 (4, .inr (.inl (.inl 1))) (List.mem_of_getElem? (i := 2) rfl)
  subst w4
  have w5 : u4.toInt = 1 := w5
  obtain ⟨ls9, h9, x1, x2, x3, x4, x5⟩ := go_hour hlw 99 u4 ls2 h2 (by omega) (by omega) d0 d1 d4 y5 J2 R2
  exact ⟨h9, Trm_succ.mpr ⟨eM185, (305, ls9, [], h9), rfl, Nat.le_of_ble_eq_true rfl, a1.trans (y1.trans x1), rfl⟩, x2, Fr.tr (W2 := goWc) rfl (Fr.tr (W2 := goWb) rfl (Fr.tr (W2 := goWa) rfl Fr.rf F1) F2) x3, x4, x5⟩
