/-! GHOSTS, 9: a fact (printed by wip/hand/gen89i.py) -/
/-- while it is opened: so many open ones more as it is deeper -/
def KO (t b m : Nat) (κ : Int) (s : Nat) (h : List cC) : Prop := ∃ (op md dp L : Nat) (o : Nat → Int32), m ≤ md ∧ KX t b op md dp L o 0 (κ + dp) s h
theorem KO_kS {t b m : Nat} {κ : Int} {s : Nat} {h h2 : List cC} (hf : Fr PT9 kSg h h2) (hk : KO t b m κ s h) : KO t b m κ s h2 := by
  obtain ⟨op, md, dp, L, o, h1, h3⟩ := hk
  exact ⟨op, md, dp, L, o, h1, KX_kS hf h3⟩
def fJ (t b m : Nat) (κ : Int) (s : Nat) : Nat → List cC → Prop
  | 0 => KO t b m κ s
  | 1 => KS t b (m + 3) 1 (κ - 2) s
  | 2 => fun h => KO t b m κ s h ∧ ∃ z : Int, fv h 14 z ∧ 0 ≤ z ∧ z ≤ 399
  | 3 => fun h => KO t b m κ s h ∧ NSP h
  | _ => fun _ => True
theorem fJ_fr {t b m : Nat} {κ : Int} {s : Nat} (h h2 : List cC) (i : Nat) (hi : (Nat.beq i 2 || Nat.beq i 3) = false) (hG : HG TT [] h) (hf : Fr PT9 kSg h h2) (hk : fJ t b m κ s i h) : fJ t b m κ s i h2 := match i, hi, hk with
  | 0, _, hk => KO_kS hf hk
  | 1, _, hk => KS_kS hf hk
  | 2, hi, _ => by cases hi
  | 3, hi, _ => by cases hi
  | _ + 4, _, _ => trivial
theorem fJ_e {t b m : Nat} {κ : Int} {s : Nat} (h h2 : List cC) (hG : HG TT [] h) (hf : Fr PT9 [] h h2) (hk : fJ t b m κ s 3 h) : fJ t b m κ s 3 h2 := by
  obtain ⟨⟨op, md, dp, L, o, h1, h3⟩, h4⟩ := hk
  exact ⟨⟨op, md, dp, L, o, h1, KX_keep hf ⟨rfl, rfl, rfl, rfl, rfl, rfl, rfl, rfl, rfl⟩ h3⟩, NSP_keep hf ⟨rfl, rfl, rfl⟩ h4⟩
theorem argJ {ρ : List Int} {e : aX} {vs : List cV} (h : okS ρ [.inl [170], aJ e] vs) : ∃ a : Int64, vs = [cR 170, cJ a] := by
  obtain ⟨v, us, e1, ⟨k, h1, h2⟩, h3⟩ := okS_cons h
  obtain ⟨w, ws, e2, ⟨x, h4, h5⟩, h6⟩ := okS_cons h3
  cases ws with
  | nil => exact ⟨x, by rw [e1, h2, e2, h4, List.mem_singleton.mp h1]⟩
  | cons _ _ => exact h6.elim
theorem KX_dp {t b op md dp L : Nat} {o : Nat → Int32} {e : Nat} {κ : Int} {s : Nat} {h : List cC} (hk : KX t b op md dp L o e κ s h) : dp ≤ 10 := by
  obtain ⟨_, _, _, _, _, _, _, _, _, _, _, _, _, _, _, _, p3, _⟩ := hk
  exact p3
theorem KX_md {t b op md dp L : Nat} {o : Nat → Int32} {e : Nat} {κ : Int} {s : Nat} {h : List cC} (hk : KX t b op md dp L o e κ s h) : md ≤ 60 := by
  obtain ⟨_, _, _, _, _, _, _, _, _, _, _, _, _, _, _, p2, _⟩ := hk
  exact p2
abbrev fcQ : aQ := mkQ P39 kSg [zn156, zn157, zn158] 3000 2
theorem fcQ_ok : Qok P9 kSg 20 fcQ := mkQ_ok J9_ok (d := 18) (cs_cons (Con_le (by decide) zt156) (cs_cons (Con_le (by decide) zt157) (cs_cons (Con_le (by decide) zt158) (cs_nil)))) 3000 2
abbrev fcQE : aQ := mkQ P39 [] [] 3000 0
theorem fcQE_ok : Qok P9 [] 20 fcQE := Qok_le (by decide) (mkQ_ok J9_ok (d := 0) cs_nil 3000 0)
abbrev fc0 : ghL := ((0, [(0, .inl [170])], [], [], [], []), 0, 5, 60)
abbrev fcB1 : ghL := ((2, [(0, .inl [170]), (1, .inr (.inl (.inl 1)))], [], [], [], []), 0, 5, 40)
abbrev fcS : ghL := ((9, [(0, .inl [170]), (1, .inr (.inl (.inl 0)))], [.inl [170]], [], [], []), 0, 5, 38)
abbrev fcS0 : ghL := ((12, [(0, .inl [170]), (1, .inr (.inl (.inl 0)))], [.inr (.inl (.inr (0, 1, 0)))], [], [((-1), (-1))], []), 0, 5, 36)
abbrev fcS3 : ghL := ((12, [(0, .inl [170]), (1, .inr (.inl (.inl 0)))], [.inr (.inl (.inr (0, 1, 0)))], [], [(0, 255)], []), 3, 5, 36)
abbrev fcT : ghL := ((17, [(0, .inl [170]), (1, .inr (.inl (.inl 0))), (2, .inr (.inl (.inr (0, 1, 0))))], [.inr (.inr (.inl (.inl 7237492))), .inl [170]], [], [(0, 255)], []), 3, 5, 34)
abbrev fcT1 : ghL := ((20, [(0, .inl [170])], [.inr (.inl (.inl 1))], [], [], []), 0, 5, 33)
abbrev fcT0 : ghL := ((20, [(0, .inl [170]), (1, .inr (.inl (.inl 0))), (2, .inr (.inl (.inr (0, 1, 0))))], [.inr (.inl (.inl 0))], [], [(0, 255)], []), 3, 5, 33)
abbrev fcB3 : ghL := ((2, [(0, .inl [170]), (1, .inr (.inl (.inl 0)))], [], [], [], []), 3, 5, 25)
abbrev fcB0 : ghL := ((2, [(0, .inl [170]), (1, .inr (.inl (.inl 0)))], [], [], [], []), 0, 5, 20)
abbrev fcC : ghL := ((26, [(0, .inl [170])], [.inr (.inl (.inl 11)), .inl [170]], [], [], []), 0, 5, 30)
abbrev fcC1 : ghL := ((29, [(0, .inl [170])], [.inr (.inl (.inl 1))], [], [], []), 0, 5, 70)
abbrev fcC0 : ghL := ((29, [(0, .inl [170])], [.inr (.inl (.inl 0))], [], [], []), 99, 4, 0)
abbrev fcD : ghL := ((52, [(0, .inl [170])], [.inr (.inl (.inl 91)), .inl [170]], [], [], []), 3, 5, 30)
abbrev fcD1 : ghL := ((55, [(0, .inl [170])], [.inr (.inl (.inl 1))], [], [], []), 2, 5, 80)
abbrev fcD2 : ghL := ((55, [(0, .inl [170])], [.inr (.inl (.inl 1))], [(170, 14, .inr (.inl (.inr (0, 1, 0))))], [(0, 399)], []), 0, 5, 70)
abbrev fcD0 : ghL := ((55, [(0, .inl [170])], [.inr (.inl (.inl 0))], [], [], []), 99, 4, 0)
abbrev fcT2 : ghL := ((20, [(0, .inl [170]), (1, .inr (.inl (.inl 0))), (2, .inr (.inl (.inr (0, 1, 0))))], [.inr (.inl (.inl 0))], [], [((-1), (-1))], []), 0, 5, 33)
abbrev fcZ : ghL := ((76, [(0, .inl [170])], [.inl [170]], [], [], []), 0, 5, 10)
abbrev fcZ1 : ghL := ((79, [(0, .inl [170])], [.inr (.inl (.inl 1))], [], [], []), 1, 3, 0)
abbrev fcZ0 : ghL := ((79, [(0, .inl [170])], [.inr (.inl (.inl 0))], [], [], []), 99, 3, 0)
abbrev fcL : List ghL := [fc0, fcB1, fcS, fcS0, fcS3, fcT, fcT1, fcT0, fcB3, fcB0, fcC, fcC1, fcC0, fcD, fcD1, fcD2, fcD0, fcT2, fcZ, fcZ1, fcZ0]
abbrev fcO : List ghO := [(some 0, 99), (some 1, 1)]
set_option maxRecDepth 1000000 in
theorem fc0_k : chkL P39 kSg fcQ eM175 0 (ghSel fc0.2.1 fcL) (ghOut fc0.2.1 fcO) 3000 (ghA fc0) = true := by decide +kernel
set_option maxRecDepth 1000000 in
theorem fcB1_k : chkL P39 kSg fcQ eM175 0 (ghSel fcB1.2.1 fcL) (ghOut fcB1.2.1 fcO) 3000 (ghA fcB1) = true := by decide +kernel
set_option maxRecDepth 1000000 in
theorem fcS0_k : chkL P39 kSg fcQ eM175 0 (ghSel fcS0.2.1 fcL) (ghOut fcS0.2.1 fcO) 3000 (ghA fcS0) = true := by decide +kernel
set_option maxRecDepth 1000000 in
theorem fcS3_k : chkL P39 [] fcQE eM175 0 (ghSel fcS3.2.1 fcL) (ghOut fcS3.2.1 fcO) 3000 (ghA fcS3) = true := by decide +kernel
set_option maxRecDepth 1000000 in
theorem fcT_k : chkC eM175 fcL 209 [(some 1, 0, 1), (some 0, 3, 1)] fcT = true := by decide +kernel
set_option maxRecDepth 1000000 in
theorem fcT1_k : chkL P39 kSg fcQ eM175 0 (ghSel fcT1.2.1 fcL) (ghOut fcT1.2.1 fcO) 3000 (ghA fcT1) = true := by decide +kernel
set_option maxRecDepth 1000000 in
theorem fcT0_k : chkL P39 [] fcQE eM175 0 (ghSel fcT0.2.1 fcL) (ghOut fcT0.2.1 fcO) 3000 (ghA fcT0) = true := by decide +kernel
set_option maxRecDepth 1000000 in
theorem fcB0_k : chkL P39 kSg fcQ eM175 0 (ghSel fcB0.2.1 fcL) (ghOut fcB0.2.1 fcO) 3000 (ghA fcB0) = true := by decide +kernel
set_option maxRecDepth 1000000 in
theorem fcC_k : chkC eM175 fcL 220 [(some 1, 0, 2), (some 0, 99, 0)] fcC = true := by decide +kernel
set_option maxRecDepth 1000000 in
theorem fcC1_k : chkL P39 kSg fcQ eM175 0 (ghSel fcC1.2.1 fcL) (ghOut fcC1.2.1 fcO) 3000 (ghA fcC1) = true := by decide +kernel
set_option maxRecDepth 1000000 in
theorem fcC0_k : chkL P39 kSg fcQ eM175 0 (ghSel fcC0.2.1 fcL) (ghOut fcC0.2.1 fcO) 3000 (ghA fcC0) = true := by decide +kernel
set_option maxRecDepth 1000000 in
theorem fcD_k : chkC eM175 fcL 220 [(some 1, 2, 2), (some 0, 99, 0)] fcD = true := by decide +kernel
set_option maxRecDepth 1000000 in
theorem fcD2_k : chkL P39 kSg fcQ eM175 0 (ghSel fcD2.2.1 fcL) (ghOut fcD2.2.1 fcO) 3000 (ghA fcD2) = true := by decide +kernel
set_option maxRecDepth 1000000 in
theorem fcD0_k : chkL P39 kSg fcQ eM175 0 (ghSel fcD0.2.1 fcL) (ghOut fcD0.2.1 fcO) 3000 (ghA fcD0) = true := by decide +kernel
set_option maxRecDepth 1000000 in
theorem fcT2_k : chkL P39 kSg fcQ eM175 0 (ghSel fcT2.2.1 fcL) (ghOut fcT2.2.1 fcO) 3000 (ghA fcT2) = true := by decide +kernel
set_option maxRecDepth 1000000 in
theorem fcZ_k : chkC eM175 fcL 169 [(some 1, 1, 0), (some 0, 99, 0)] fcZ = true := by decide +kernel
set_option maxRecDepth 1000000 in
theorem fcZ1_k : chkL P39 kSg fcQ eM175 0 (ghSel fcZ1.2.1 fcL) (ghOut fcZ1.2.1 fcO) 3000 (ghA fcZ1) = true := by decide +kernel
set_option maxRecDepth 1000000 in
theorem fcZ0_k : chkL P39 kSg fcQ eM175 0 (ghSel fcZ0.2.1 fcL) (ghOut fcZ0.2.1 fcO) 3000 (ghA fcZ0) = true := by decide +kernel
theorem fc_ok {t b m : Nat} {κ : Int} {s : Nat} (ht : t < 6) (hκ : κ ≤ 60) {h : List cC} (hG : HG TT [] h) (hJ : J9 h) (hk : KS t b m 0 κ s h) : ∃ (r : Option cV) (h2 : List cC), Trm 21 175 [cR 170] h r h2 ∧ HG TT [] h2 ∧ Fr PT9 kWa h h2 ∧ J9 h2 ∧ (retV [] (ghR (some 0)) r ∨ (retV [] (ghR (some 1)) r ∧ KS t b (m + 3) 1 (κ - 2) s h2)) := by
  obtain ⟨op, md, dp, L, o, k1, k2⟩ := hk
  obtain ⟨r, h2, t1, t2, t3, t4, o, o1, o2, o3⟩ := G_of (JF := fJ t b m κ s) (mu := fun h => 10 - fN h 19) (WA := kWa) (d := 20) (mi := 175) (N := eM175) rfl (outs := fcO) (Ls := fcL.tail) (i := 0) (p := 5) (r := 60) rfl (gh_cons (G_seg (fun h h2 => fJ_fr h h2 _ rfl) (fun h h2 hG hf => by show 10 - fN h2 19 = 10 - fN h 19; rw [fN_keep hG hf ⟨_, rfl⟩ rfl]) rfl fcQ_ok fc0_k) (gh_cons (G_seg (fun h h2 => fJ_fr h h2 _ rfl) (fun h h2 hG hf => by show 10 - fN h2 19 = 10 - fN h 19; rw [fN_keep hG hf ⟨_, rfl⟩ rfl]) rfl fcQ_ok fcB1_k) (gh_cons (G_callS (mi := 232) (N := eM232) rfl rfl rfl rfl rfl (couts := [((-1, -1), 0, 36), ((0, 255), 3, 36)]) (fun h hG hJ hK => by
    have hK : KO t b m κ s h := hK
    obtain ⟨x, h2, t1, t2, t3, t4, t5⟩ := see_ok hG hJ
    have hO : KO t b m κ s h2 := KO_kS (Fr.tr (W2 := [(170, 14)]) rfl Fr.rf t3) hK
    refine ⟨x, h2, Trm_le (by decide) t1, t2, Fr.tr (W2 := [(170, 14)]) rfl Fr.rf t3, t4, ?_⟩
    have hmu : 10 - fN h2 19 = 10 - fN h 19 := by rw [fN_keep hG t3 ⟨_, rfl⟩ rfl]
    rcases t5 with t5 | ⟨t5, t6, t7⟩
    · exact ⟨((-1, -1), 0, 36), List.mem_of_getElem? (i := 0) rfl, ⟨by show (-1 : Int) ≤ _; omega, by show _ ≤ (-1 : Int); omega⟩, hO, hmu⟩
    · exact ⟨((0, 255), 3, 36), List.mem_of_getElem? (i := 1) rfl, ⟨by show (0 : Int) ≤ _; omega, by show _ ≤ (255 : Int); omega⟩, ⟨hO, t7⟩, hmu⟩) (gh_cons ⟨List.mem_of_getElem? (i := 3) rfl, by decide⟩ (gh_cons ⟨List.mem_of_getElem? (i := 4) rfl, by decide⟩ gh_nil))) (gh_cons (G_seg (fun h h2 => fJ_fr h h2 _ rfl) (fun h h2 hG hf => by show 10 - fN h2 19 = 10 - fN h 19; rw [fN_keep hG hf ⟨_, rfl⟩ rfl]) rfl fcQ_ok fcS0_k) (gh_cons (G_seg (WS := []) (fun h h2 => fJ_e h h2) (fun h h2 hG hf => by show 10 - fN h2 19 = 10 - fN h 19; rw [fN_keep hG hf ⟨_, rfl⟩ rfl]) rfl fcQE_ok fcS3_k) (gh_cons (G_call (N := eM209) rfl fcT_k (fun h ρ vs hG hJ hK hB hF hA => by
    obtain ⟨a, e1⟩ := argJ hA
    subst e1
    obtain ⟨r, h2, t1, t2, t3, t4, t5⟩ := iw_nsp hG hJ hK.2 a
    have hK2 := fJ_e h h2 hG t3 hK
    have hmu : 10 - fN h2 19 = 10 - fN h 19 := by rw [fN_keep hG t3 ⟨_, rfl⟩ rfl]
    refine ⟨r, h2, Trm_le (by decide) t1, t2, Fr.tr (W2 := []) rfl Fr.rf t3, t4, ?_⟩
    rcases t5 with t5 | t5
    · exact ⟨(some 0, 3, 1), List.mem_of_getElem? (i := 1) rfl, t5, hK2, (fun _ => Nat.le_of_eq hmu), (fun z => by cases z)⟩
    · exact ⟨(some 1, 0, 1), List.mem_of_getElem? (i := 0) rfl, t5, hK2.1, (fun _ => Nat.le_of_eq hmu), (fun z => by cases z)⟩)) (gh_cons (G_seg (fun h h2 => fJ_fr h h2 _ rfl) (fun h h2 hG hf => by show 10 - fN h2 19 = 10 - fN h 19; rw [fN_keep hG hf ⟨_, rfl⟩ rfl]) rfl fcQ_ok fcT1_k) (gh_cons (G_seg (WS := []) (fun h h2 => fJ_e h h2) (fun h h2 hG hf => by show 10 - fN h2 19 = 10 - fN h 19; rw [fN_keep hG hf ⟨_, rfl⟩ rfl]) rfl fcQE_ok fcT0_k) (gh_cons (G_idx (i2 := 0) (r2 := 20) (List.mem_of_getElem? (i := 9) rfl) (by decide) (fun h hK => hK.1)) (gh_cons (G_seg (fun h h2 => fJ_fr h h2 _ rfl) (fun h h2 hG hf => by show 10 - fN h2 19 = 10 - fN h 19; rw [fN_keep hG hf ⟨_, rfl⟩ rfl]) rfl fcQ_ok fcB0_k) (gh_cons (G_call (N := eM220) rfl fcC_k (fun h ρ vs hG hJ hK hB hF hA => by
    obtain ⟨a, e1, e2⟩ := arg2 hA
    subst e1
    have ea : a = 11 := (i32_of e2).trans rfl
    have hK : KO t b m κ s h := hK
    obtain ⟨op, md, dp, L, o, k1, k2⟩ := hK
    have hdp := KX_dp k2
    obtain ⟨r, h2, t1, t2, t3, t4, t5⟩ := op_trm hG hJ k2 (by omega) (w := a) (Or.inl ea)
    refine ⟨r, h2, Trm_le (by decide) t1, t2, t3, t4, ?_⟩
    rcases t5 with t5 | ⟨t5, t6, t7, t8⟩
    · exact ⟨(some 0, 99, 0), List.mem_of_getElem? (i := 1) rfl, t5, trivial, (fun z => by cases z), (fun z => by cases z)⟩
    · have hO : KO t b m κ s h2 := ⟨op + 1, md, dp + 1, L, upd o op a, k1, by rw [show κ + ((dp + 1 : Nat) : Int) = κ + dp + 1 by omega]; exact t7⟩
      refine ⟨(some 1, 0, 2), List.mem_of_getElem? (i := 0) rfl, t5, hO, (fun z => by cases z), fun _ => ?_⟩
      have z1 := fN_of k2.2.2.2.1
      have z2 := fN_of t7.2.2.2.1
      show 10 - fN h2 19 < 10 - fN h 19
      omega)) (gh_cons (G_seg (fun h h2 => fJ_fr h h2 _ rfl) (fun h h2 hG hf => by show 10 - fN h2 19 = 10 - fN h 19; rw [fN_keep hG hf ⟨_, rfl⟩ rfl]) rfl fcQ_ok fcC1_k) (gh_cons (G_seg (fun h h2 => fJ_fr h h2 _ rfl) (fun h h2 hG hf => by show 10 - fN h2 19 = 10 - fN h 19; rw [fN_keep hG hf ⟨_, rfl⟩ rfl]) rfl fcQ_ok fcC0_k) (gh_cons (G_call (N := eM220) rfl fcD_k (fun h ρ vs hG hJ hK hB hF hA => by
    obtain ⟨a, e1, e2⟩ := arg2 hA
    subst e1
    have ea : a = 91 := (i32_of e2).trans rfl
    obtain ⟨hK, n, tp, f, n1, n2, n3, n4, n5, n6⟩ := hK
    obtain ⟨op, md, dp, L, o, k1, k2⟩ := hK
    have hdp := KX_dp k2
    obtain ⟨r, h2, t1, t2, t3, t4, t5⟩ := op_trm hG hJ k2 (by omega) (w := a) (Or.inr ea)
    refine ⟨r, h2, Trm_le (by decide) t1, t2, t3, t4, ?_⟩
    rcases t5 with t5 | ⟨t5, t6, t7, t8⟩
    · exact ⟨(some 0, 99, 0), List.mem_of_getElem? (i := 1) rfl, t5, trivial, (fun z => by cases z), (fun z => by cases z)⟩
    · have hO : KO t b m κ s h2 := ⟨op + 1, md, dp + 1, L, upd o op a, k1, by rw [show κ + ((dp + 1 : Nat) : Int) = κ + dp + 1 by omega]; exact t7⟩
      refine ⟨(some 1, 2, 2), List.mem_of_getElem? (i := 0) rfl, t5, ⟨hO, (n : Int), t8 _ n1, by omega, by omega⟩, (fun z => by cases z), fun _ => ?_⟩
      have z1 := fN_of k2.2.2.2.1
      have z2 := fN_of t7.2.2.2.1
      show 10 - fN h2 19 < 10 - fN h 19
      omega)) (gh_cons (G_know (i2 := 0) (r2 := 70) (q := (0, 399)) (List.mem_of_getElem? (i := 15) rfl) (by decide) (fun h hG hK => by
    obtain ⟨k1, z, ⟨x, x1, x2⟩, x3, x4⟩ := hK
    exact ⟨k1, x, x1, by show (0 : Int) ≤ _; omega, by show _ ≤ (399 : Int); omega⟩)) (gh_cons (G_seg (fun h h2 => fJ_fr h h2 _ rfl) (fun h h2 hG hf => by show 10 - fN h2 19 = 10 - fN h 19; rw [fN_keep hG hf ⟨_, rfl⟩ rfl]) rfl fcQ_ok fcD2_k) (gh_cons (G_seg (fun h h2 => fJ_fr h h2 _ rfl) (fun h h2 hG hf => by show 10 - fN h2 19 = 10 - fN h 19; rw [fN_keep hG hf ⟨_, rfl⟩ rfl]) rfl fcQ_ok fcD0_k) (gh_cons (G_seg (fun h h2 => fJ_fr h h2 _ rfl) (fun h h2 hG hf => by show 10 - fN h2 19 = 10 - fN h 19; rw [fN_keep hG hf ⟨_, rfl⟩ rfl]) rfl fcQ_ok fcT2_k) (gh_cons (G_call (N := eM169) rfl fcZ_k (fun h ρ vs hG hJ hK hB hF hA => by
    have e1 := arg1 hA
    subst e1
    have hK : KO t b m κ s h := hK
    obtain ⟨op, md, dp, L, o, k1, k2⟩ := hK
    have hdp := KX_dp k2
    obtain ⟨r, h2, t1, t2, t3, t4, t5⟩ := cp_ok (m := m) (κ := κ + 10) ht (by omega) hG hJ ⟨op, md, dp, L, o, k1, KX_le (by omega) (Nat.le_refl _) k2⟩
    refine ⟨r, h2, Trm_le (by decide) t1, t2, t3, t4, ?_⟩
    rcases t5 with t5 | ⟨t5, t6⟩
    · exact ⟨(some 0, 99, 0), List.mem_of_getElem? (i := 1) rfl, t5, trivial, (fun z => by cases z), (fun z => by cases z)⟩
    · exact ⟨(some 1, 1, 0), List.mem_of_getElem? (i := 0) rfl, t5, by rw [show κ + 10 - 12 = κ - 2 by omega] at t6; exact t6, (fun z => by cases z), (fun z => by cases z)⟩)) (gh_cons (G_seg (fun h h2 => fJ_fr h h2 _ rfl) (fun h h2 hG hf => by show 10 - fN h2 19 = 10 - fN h 19; rw [fN_keep hG hf ⟨_, rfl⟩ rfl]) rfl fcQ_ok fcZ1_k) (gh_cons (G_seg (fun h h2 => fJ_fr h h2 _ rfl) (fun h h2 hG hf => by show 10 - fN h2 19 = 10 - fN h 19; rw [fN_keep hG hf ⟨_, rfl⟩ rfl]) rfl fcQ_ok fcZ0_k) (gh_nil)))))))))))))))))))))) hG hJ ⟨op, md, dp, L, o, k1, KX_le (by omega) (Nat.le_refl _) k2⟩
  refine ⟨r, h2, t1, t2, t3, t4, ?_⟩
  rcases List.mem_cons.mp o1 with e1 | o1
  · subst e1
    exact Or.inl o2
  · have e1 := List.mem_singleton.mp o1
    subst e1
    exact Or.inr ⟨o2, o3⟩
