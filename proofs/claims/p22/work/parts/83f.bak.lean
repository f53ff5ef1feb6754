/-! BY HAND, 10: back, both calls; image and back of any number (printed by wip/hand/gen83f.py) -/
theorem bkX0 {h : List cC} (hi : INV h) {a : Int32} (ha : a.toInt = 0) (hm : rE h 78 0 = some 1) {v : Int32} (hv : fI h 35 3 = some v) : ∃ (r : Int32) (h1 : List cC), Trm 4 97 [cR 0, cI a] h (some (cI r)) h1 ∧ HG TT [] h1 ∧ J9 h1 ∧ Fr [] fn_backX01.2.2.2.2.2.1 h h1 ∧ fI h1 21 3 = some v := by
  obtain ⟨v', x1, x2, x3⟩ := HG_f hi.1 (k := 35) (j := 3) (b := (0, 20)) rfl rfl
  rw [hv] at x1
  cases x1
  dsimp only at x2 x3
  obtain ⟨ci, vs, f1, f2⟩ := fI_inv hv
  obtain ⟨r, h1, t1, t2, t3, t4, o, o1, ρ', o2, o3, o4, o5, o6⟩ := ft_backX01 [v.toInt] [cR 0, cI a] h hi.1 (bcons ⟨x2, x3⟩ bnil) (fun q hq => by
    have e := List.mem_singleton.mp hq
    subst e
    exact c_okR hm rfl) ⟨⟨0, List.mem_singleton.mpr rfl, rfl⟩, ⟨a, rfl, ha⟩, trivial⟩ (fun q hq => by
    have e := List.mem_singleton.mp hq
    subst e
    exact ⟨ci, vs, _, f1, f2, vxs rfl⟩) hi.2.1
  have e := List.mem_singleton.mp o1
  subst e
  have r0 : ρ'[0]? = some v.toInt := at_mono o2 rfl
  cases r with
  | none => exact o6.elim
  | some u =>
    obtain ⟨x, ex, _⟩ := o6
    subst ex
    exact ⟨x, h1, t1, t2, t4, t3, okF_fI o5 (List.mem_of_getElem? (i := 0) rfl) r0⟩
theorem bkZ0 {h : List cC} (hG : HG TT [] h) (hJ : J9 h) {a : Int32} (ha : a.toInt = 0) (hm : rE h 78 0 = some 0) : ∃ (r : Int32) (h1 : List cC), Trm 1 97 [cR 0, cI a] h (some (cI r)) h1 ∧ HG TT [] h1 ∧ J9 h1 ∧ Fr [] [] h h1 := by
  obtain ⟨r, h1, t1, t2, t3, t4, o, o1, ρ', o2, o3, o4, o5, o6⟩ := ft_backX00 [] [cR 0, cI a] h hG bnil (fun q hq => by
    have e := List.mem_singleton.mp hq
    subst e
    exact c_okR hm rfl) ⟨⟨0, List.mem_singleton.mpr rfl, rfl⟩, ⟨a, rfl, ha⟩, trivial⟩ (fun q hq => by cases hq) hJ
  have e := List.mem_singleton.mp o1
  subst e
  obtain ⟨x, ex, _⟩ := ret_c o6
  subst ex
  exact ⟨x, h1, t1, t2, t4, t3⟩
theorem bkY0 {h : List cC} (hG : HG TT [] h) (hJ : J9 h) {a : Int32} (ha : a.toInt = 0) (hm : rE h 204 0 = some 0) : ∃ (r : Int32) (h1 : List cC), Trm 2 155 [cR 170, cI a] h (some (cI r)) h1 ∧ HG TT [] h1 ∧ J9 h1 ∧ Fr [] [] h h1 := by
  obtain ⟨r, h1, t1, t2, t3, t4, o, o1, ρ', o2, o3, o4, o5, o6⟩ := ft_backM00 [] [cR 170, cI a] h hG bnil (fun q hq => by
    have e := List.mem_singleton.mp hq
    subst e
    exact c_okR hm rfl) ⟨⟨170, List.mem_singleton.mpr rfl, rfl⟩, ⟨a, rfl, ha⟩, trivial⟩ (fun q hq => by cases hq) hJ
  have e := List.mem_singleton.mp o1
  subst e
  obtain ⟨x, ex, _⟩ := ret_c o6
  subst ex
  exact ⟨x, h1, t1, t2, t4, t3⟩
theorem bkM0 {h : List cC} (hG : HG TT [] h) (hJ : J9 h) (hm : rE h 204 0 = some 1) {a : Int32} (ha : a.toInt = 0) : ∃ (r : Int32) (h2 : List cC), Trm 2 155 [cR 170, cI a] h (some (cI r)) h2 ∧ HG TT [] h2 ∧ J9 h2 ∧ Fr [] [(183, 1000)] h h2 ∧ (NSh h → NSh h2) ∧ ∀ v : Int32, rE h 203 3 = some v → rE h2 183 3 = some v := by
  obtain ⟨S2, ρ2, z1, z2, z3, z4, z5, z6, z7, z8, z9⟩ := Obl_oneR (chkL_ok J9_okf q1f bA0_k) (ρ := []) rfl (S := (0, [(0, cR 170), (1, cI a)], [], h)) rfl hG bnil (fun q hq => by
    simp only [bA0A, List.mem_cons, List.not_mem_nil, or_false] at hq
    subst hq
    exact c_okR hm rfl) (fun q hq => by
    simp only [bA0A, List.mem_cons, List.not_mem_nil, or_false] at hq
    rcases hq with rfl | rfl
    · exact ⟨_, rfl, 170, List.mem_singleton.mpr rfl, rfl⟩
    · exact ⟨_, rfl, a, rfl, ha⟩) trivial (fun q hq => by cases hq) hJ
  obtain ⟨Spc, Sls, Sst, Sh⟩ := S2
  dsimp only [bA0T] at z1 z2 z3 z4 z5 z6 z7 z8 z9
  have e2 : Sst = [] := by
    cases Sst with
    | nil => rfl
    | cons _ _ => exact z8.elim
  subst z4 e2
  have k0 := vR z7 (j := 0) (List.mem_of_getElem? (i := 0) rfl)
  obtain ⟨a1, k1, y1⟩ := vC z7 (List.mem_of_getElem? (i := 1) rfl)
  obtain ⟨a2, k2, y2⟩ := vC z7 (List.mem_of_getElem? (i := 2) rfl)
  obtain ⟨f, g1, g2⟩ := HG_sa z5
  obtain ⟨g, g3, g4⟩ := HG_im z5
  obtain ⟨ls2, ff, w1, w2, w3, w4, w5⟩ := bk_loop (call := calF (Trm 1)) (k := a1) (by omega) g4 230 a2 Sls Sh f z5 g3 g1 ⟨k0, k1, k2⟩ (by omega) (by omega)
  have hJ2 : J9 (Sh.set 183 (.inr (.inl (0, 230, ff)))) := J9_set z3 (by decide)
  obtain ⟨S3, v1, v2, v3⟩ := (chkL_ok J9_okf q0f bE_k : Obl P9f W0 1 eM155 0 bEU bET bEA) [] rfl (Sh.set 183 (.inr (.inl (0, 230, ff)))) [] (56, ls2, [], Sh.set 183 (.inr (.inl (0, 230, ff)))) rfl w2 bnil ⟨List.prefix_rfl, (fun q hq => by cases hq)⟩ (fun q hq => by
    have e := List.mem_singleton.mp hq
    subst e
    exact ⟨_, w3, 170, List.mem_singleton.mpr rfl, rfl⟩) trivial (fun q hq => by cases hq) ⟨Fr.rf, hJ2⟩
  rcases v3 with ⟨l2, q1, _⟩ | ⟨r, p1, p2, o, o1, ρ', o2, o3, o4, o5⟩
  · cases q1
  · have eo := List.mem_singleton.mp o1
    subst eo
    cases r with
    | none => exact o5.elim
    | some vv =>
      obtain ⟨x, ex, _⟩ := o5
      subst ex
      have fr : Fr [] [(183, 1000)] h S3.2.2.2 := Fr_tr2 (W1 := [(183, 1000)]) (W2 := W0) rfl rfl (Fr_tr2 (W1 := W0) (W2 := [(183, 1000)]) rfl rfl z2 (Fr_183 g1)) v2.1
      have nsh : NSh h → NSh S3.2.2.2 := fun n => NSh_sm w2 (SM_of v2.1 rfl rfl) (NSh_bk g1 g3 w2 (a := a1.toInt.toNat) (by omega) (fun m hm => w4 m (by omega) hm) (NSh_sm hG (SM_of z2 rfl rfl) n))
      refine ⟨x, S3.2.2.2, Trm_succ.mpr ⟨eM155, S3, rfl, (show 2 ≤ m_L eM155 by decide), z1.trans (w1.trans v1), p1⟩, p2, v2.2, fr, nsh, fun v hv => ?_⟩
      have hv2 : rE Sh 203 3 = some v := rE_keep z2 rfl hv
      rw [rE_at _ g3] at hv2
      have h6 := w4 3 (by omega) (by omega)
      have h7 : rE (Sh.set 183 (.inr (.inl (0, 230, ff)))) 183 3 = some (ff 3) := rE_at 3 (List.getElem?_set_self (List.getElem?_eq_some_iff.mp g1).1)
      have h8 := rE_keep v2.1 rfl h7
      rw [h6, show 230 * a1.toInt.toNat + 3 = 3 by omega] at h8
      rw [h8]
      exact hv2
theorem image_pair0 {h : List cC} (hi : INV h) {a : Int32} (ha : a.toInt = 0) : ∃ (r r' : Int32) (h1 h2 : List cC), Trm 4 113 [cR 0, cI a] h (some (cI r)) h1 ∧ HG TT [] h1 ∧ (NSh h → NSh h2) ∧ Trm 4 188 [cR 170, cI a] h1 (some (cI r')) h2 ∧ INV h2 := by
  obtain ⟨r, h1, t1, t2, t3, t4, ⟨w, w1, w2⟩, t5, t6⟩ := imX0 hi ha
  obtain ⟨w', w3, w4⟩ := hi.2.2.1
  rw [w1] at w3
  cases w3
  obtain ⟨r', h2, u1, u2, u3, u4, u5, u6, u7, u9, u8⟩ := imM0 t2 t3 (fun k hk => by
    obtain ⟨b, _, b2, _⟩ := hi.2.2.2 k hk
    exact ⟨b, rE_keep t4 rfl b2⟩) ha
  refine ⟨r, r', h1, h2, t1, t2, (fun n => u9 (NSh_sm hi.1 (SM_of t4 rfl rfl) n)), Trm_le (by decide) u1, u2, u3, ⟨w, fI_keep u4 rfl (fI_keep t4 rfl w1), rE_keep u4 rfl (rE_keep t4 rfl w4)⟩, fun k hk => ?_⟩
  by_cases e : k = 0
  · subst e
    exact ⟨1, rE_keep u4 rfl t5, u5, Or.inr ⟨rfl, w, fI_keep u4 rfl w2, u7 w (rE_keep t4 rfl w4)⟩⟩
  · obtain ⟨b, b1, b2, b3⟩ := hi.2.2.2 k hk
    refine ⟨b, rE_keep u4 rfl (t6 k hk e b b1), u6 k hk e b (rE_keep t4 rfl b2), ?_⟩
    rcases b3 with b3 | ⟨b3, v, v1, v2⟩
    · exact Or.inl b3
    · refine Or.inr ⟨b3, v, ?_, u8 k hk e v (rE_keep t4 rfl v2)⟩
      have : k = 1 ∨ k = 2 ∨ k = 3 := by omega
      rcases this with rfl | rfl | rfl <;> exact fI_keep u4 rfl (fI_keep t4 rfl v1)
theorem back_pair0 {h : List cC} (hi : INV h) {a : Int32} (ha : a.toInt = 0) : ∃ (r r' : Int32) (h1 h2 : List cC), Trm 4 97 [cR 0, cI a] h (some (cI r)) h1 ∧ HG TT [] h1 ∧ (NSh h → NSh h2) ∧ Trm 4 155 [cR 170, cI a] h1 (some (cI r')) h2 ∧ INV h2 := by
  obtain ⟨b, b1, b2, b3⟩ := hi.2.2.2 0 (by decide)
  rcases b3 with b3 | ⟨b3, v, v1, v2⟩
  · subst b3
    obtain ⟨r, h1, t1, t2, t3, t4⟩ := bkZ0 hi.1 hi.2.1 ha b1
    obtain ⟨r', h2, u1, u2, u3, u4⟩ := bkY0 t2 t3 ha (rE_keep t4 rfl b2)
    have fr : Fr [] [] h h2 := Fr_tr2 (W1 := []) (W2 := []) rfl rfl t4 u4
    obtain ⟨w, w1, w2⟩ := hi.2.2.1
    exact ⟨r, r', h1, h2, Trm_le (by decide) t1, t2, (fun n => NSh_sm hi.1 (SM_of fr rfl rfl) n), Trm_le (by decide) u1, u2, u3, ⟨w, fI_keep fr rfl w1, rE_keep fr rfl w2⟩, INV_mid hi fr (fun _ _ => rfl) rfl rfl rfl⟩
  · subst b3
    obtain ⟨r, h1, t1, t2, t3, t4, t5⟩ := bkX0 hi ha b1 v1
    obtain ⟨r', h2, u1, u2, u3, u4, u9, u5⟩ := bkM0 t2 t3 (rE_keep t4 rfl b2) ha
    refine ⟨r, r', h1, h2, t1, t2, (fun n => u9 (NSh_sm hi.1 (SM_of t4 rfl rfl) n)), Trm_le (by decide) u1, u2, u3, ⟨v, fI_keep u4 rfl t5, u5 v (rE_keep t4 rfl v2)⟩, ?_⟩
    have fr : Fr [] ((183, 1000) :: fn_backX01.2.2.2.2.2.1) h h2 := Fr_tr2 (W1 := fn_backX01.2.2.2.2.2.1) (W2 := [(183, 1000)]) (by decide) (by decide) t4 u4
    exact INV_mid hi fr (fun k hk => by
      have : k = 0 ∨ k = 1 ∨ k = 2 ∨ k = 3 := by omega
      rcases this with rfl | rfl | rfl | rfl <;> rfl) rfl rfl rfl
theorem bkX1 {h : List cC} (hi : INV h) {a : Int32} (ha : a.toInt = 1) (hm : rE h 78 1 = some 1) {v : Int32} (hv : fI h 48 3 = some v) : ∃ (r : Int32) (h1 : List cC), Trm 4 97 [cR 0, cI a] h (some (cI r)) h1 ∧ HG TT [] h1 ∧ J9 h1 ∧ Fr [] fn_backX11.2.2.2.2.2.1 h h1 ∧ fI h1 21 3 = some v := by
  obtain ⟨v', x1, x2, x3⟩ := HG_f hi.1 (k := 48) (j := 3) (b := (0, 20)) rfl rfl
  rw [hv] at x1
  cases x1
  dsimp only at x2 x3
  obtain ⟨ci, vs, f1, f2⟩ := fI_inv hv
  obtain ⟨r, h1, t1, t2, t3, t4, o, o1, ρ', o2, o3, o4, o5, o6⟩ := ft_backX11 [v.toInt] [cR 0, cI a] h hi.1 (bcons ⟨x2, x3⟩ bnil) (fun q hq => by
    have e := List.mem_singleton.mp hq
    subst e
    exact c_okR hm rfl) ⟨⟨0, List.mem_singleton.mpr rfl, rfl⟩, ⟨a, rfl, ha⟩, trivial⟩ (fun q hq => by
    have e := List.mem_singleton.mp hq
    subst e
    exact ⟨ci, vs, _, f1, f2, vxs rfl⟩) hi.2.1
  have e := List.mem_singleton.mp o1
  subst e
  have r0 : ρ'[0]? = some v.toInt := at_mono o2 rfl
  cases r with
  | none => exact o6.elim
  | some u =>
    obtain ⟨x, ex, _⟩ := o6
    subst ex
    exact ⟨x, h1, t1, t2, t4, t3, okF_fI o5 (List.mem_of_getElem? (i := 0) rfl) r0⟩
theorem bkZ1 {h : List cC} (hG : HG TT [] h) (hJ : J9 h) {a : Int32} (ha : a.toInt = 1) (hm : rE h 78 1 = some 0) : ∃ (r : Int32) (h1 : List cC), Trm 1 97 [cR 0, cI a] h (some (cI r)) h1 ∧ HG TT [] h1 ∧ J9 h1 ∧ Fr [] [] h h1 := by
  obtain ⟨r, h1, t1, t2, t3, t4, o, o1, ρ', o2, o3, o4, o5, o6⟩ := ft_backX10 [] [cR 0, cI a] h hG bnil (fun q hq => by
    have e := List.mem_singleton.mp hq
    subst e
    exact c_okR hm rfl) ⟨⟨0, List.mem_singleton.mpr rfl, rfl⟩, ⟨a, rfl, ha⟩, trivial⟩ (fun q hq => by cases hq) hJ
  have e := List.mem_singleton.mp o1
  subst e
  obtain ⟨x, ex, _⟩ := ret_c o6
  subst ex
  exact ⟨x, h1, t1, t2, t4, t3⟩
theorem bkY1 {h : List cC} (hG : HG TT [] h) (hJ : J9 h) {a : Int32} (ha : a.toInt = 1) (hm : rE h 204 1 = some 0) : ∃ (r : Int32) (h1 : List cC), Trm 2 155 [cR 170, cI a] h (some (cI r)) h1 ∧ HG TT [] h1 ∧ J9 h1 ∧ Fr [] [] h h1 := by
  obtain ⟨r, h1, t1, t2, t3, t4, o, o1, ρ', o2, o3, o4, o5, o6⟩ := ft_backM10 [] [cR 170, cI a] h hG bnil (fun q hq => by
    have e := List.mem_singleton.mp hq
    subst e
    exact c_okR hm rfl) ⟨⟨170, List.mem_singleton.mpr rfl, rfl⟩, ⟨a, rfl, ha⟩, trivial⟩ (fun q hq => by cases hq) hJ
  have e := List.mem_singleton.mp o1
  subst e
  obtain ⟨x, ex, _⟩ := ret_c o6
  subst ex
  exact ⟨x, h1, t1, t2, t4, t3⟩
theorem bkM1 {h : List cC} (hG : HG TT [] h) (hJ : J9 h) (hm : rE h 204 1 = some 1) {a : Int32} (ha : a.toInt = 1) : ∃ (r : Int32) (h2 : List cC), Trm 2 155 [cR 170, cI a] h (some (cI r)) h2 ∧ HG TT [] h2 ∧ J9 h2 ∧ Fr [] [(183, 1000)] h h2 ∧ (NSh h → NSh h2) ∧ ∀ v : Int32, rE h 203 233 = some v → rE h2 183 3 = some v := by
  obtain ⟨S2, ρ2, z1, z2, z3, z4, z5, z6, z7, z8, z9⟩ := Obl_oneR (chkL_ok J9_okf q1f bA1_k) (ρ := []) rfl (S := (0, [(0, cR 170), (1, cI a)], [], h)) rfl hG bnil (fun q hq => by
    simp only [bA1A, List.mem_cons, List.not_mem_nil, or_false] at hq
    subst hq
    exact c_okR hm rfl) (fun q hq => by
    simp only [bA1A, List.mem_cons, List.not_mem_nil, or_false] at hq
    rcases hq with rfl | rfl
    · exact ⟨_, rfl, 170, List.mem_singleton.mpr rfl, rfl⟩
    · exact ⟨_, rfl, a, rfl, ha⟩) trivial (fun q hq => by cases hq) hJ
  obtain ⟨Spc, Sls, Sst, Sh⟩ := S2
  dsimp only [bA1T] at z1 z2 z3 z4 z5 z6 z7 z8 z9
  have e2 : Sst = [] := by
    cases Sst with
    | nil => rfl
    | cons _ _ => exact z8.elim
  subst z4 e2
  have k0 := vR z7 (j := 0) (List.mem_of_getElem? (i := 0) rfl)
  obtain ⟨a1, k1, y1⟩ := vC z7 (List.mem_of_getElem? (i := 1) rfl)
  obtain ⟨a2, k2, y2⟩ := vC z7 (List.mem_of_getElem? (i := 2) rfl)
  obtain ⟨f, g1, g2⟩ := HG_sa z5
  obtain ⟨g, g3, g4⟩ := HG_im z5
  obtain ⟨ls2, ff, w1, w2, w3, w4, w5⟩ := bk_loop (call := calF (Trm 1)) (k := a1) (by omega) g4 230 a2 Sls Sh f z5 g3 g1 ⟨k0, k1, k2⟩ (by omega) (by omega)
  have hJ2 : J9 (Sh.set 183 (.inr (.inl (0, 230, ff)))) := J9_set z3 (by decide)
  obtain ⟨S3, v1, v2, v3⟩ := (chkL_ok J9_okf q0f bE_k : Obl P9f W0 1 eM155 0 bEU bET bEA) [] rfl (Sh.set 183 (.inr (.inl (0, 230, ff)))) [] (56, ls2, [], Sh.set 183 (.inr (.inl (0, 230, ff)))) rfl w2 bnil ⟨List.prefix_rfl, (fun q hq => by cases hq)⟩ (fun q hq => by
    have e := List.mem_singleton.mp hq
    subst e
    exact ⟨_, w3, 170, List.mem_singleton.mpr rfl, rfl⟩) trivial (fun q hq => by cases hq) ⟨Fr.rf, hJ2⟩
  rcases v3 with ⟨l2, q1, _⟩ | ⟨r, p1, p2, o, o1, ρ', o2, o3, o4, o5⟩
  · cases q1
  · have eo := List.mem_singleton.mp o1
    subst eo
    cases r with
    | none => exact o5.elim
    | some vv =>
      obtain ⟨x, ex, _⟩ := o5
      subst ex
      have fr : Fr [] [(183, 1000)] h S3.2.2.2 := Fr_tr2 (W1 := [(183, 1000)]) (W2 := W0) rfl rfl (Fr_tr2 (W1 := W0) (W2 := [(183, 1000)]) rfl rfl z2 (Fr_183 g1)) v2.1
      have nsh : NSh h → NSh S3.2.2.2 := fun n => NSh_sm w2 (SM_of v2.1 rfl rfl) (NSh_bk g1 g3 w2 (a := a1.toInt.toNat) (by omega) (fun m hm => w4 m (by omega) hm) (NSh_sm hG (SM_of z2 rfl rfl) n))
      refine ⟨x, S3.2.2.2, Trm_succ.mpr ⟨eM155, S3, rfl, (show 2 ≤ m_L eM155 by decide), z1.trans (w1.trans v1), p1⟩, p2, v2.2, fr, nsh, fun v hv => ?_⟩
      have hv2 : rE Sh 203 233 = some v := rE_keep z2 rfl hv
      rw [rE_at _ g3] at hv2
      have h6 := w4 3 (by omega) (by omega)
      have h7 : rE (Sh.set 183 (.inr (.inl (0, 230, ff)))) 183 3 = some (ff 3) := rE_at 3 (List.getElem?_set_self (List.getElem?_eq_some_iff.mp g1).1)
      have h8 := rE_keep v2.1 rfl h7
      rw [h6, show 230 * a1.toInt.toNat + 3 = 233 by omega] at h8
      rw [h8]
      exact hv2
theorem image_pair1 {h : List cC} (hi : INV h) {a : Int32} (ha : a.toInt = 1) : ∃ (r r' : Int32) (h1 h2 : List cC), Trm 4 113 [cR 0, cI a] h (some (cI r)) h1 ∧ HG TT [] h1 ∧ (NSh h → NSh h2) ∧ Trm 4 188 [cR 170, cI a] h1 (some (cI r')) h2 ∧ INV h2 := by
  obtain ⟨r, h1, t1, t2, t3, t4, ⟨w, w1, w2⟩, t5, t6⟩ := imX1 hi ha
  obtain ⟨w', w3, w4⟩ := hi.2.2.1
  rw [w1] at w3
  cases w3
  obtain ⟨r', h2, u1, u2, u3, u4, u5, u6, u7, u9, u8⟩ := imM1 t2 t3 (fun k hk => by
    obtain ⟨b, _, b2, _⟩ := hi.2.2.2 k hk
    exact ⟨b, rE_keep t4 rfl b2⟩) ha
  refine ⟨r, r', h1, h2, t1, t2, (fun n => u9 (NSh_sm hi.1 (SM_of t4 rfl rfl) n)), Trm_le (by decide) u1, u2, u3, ⟨w, fI_keep u4 rfl (fI_keep t4 rfl w1), rE_keep u4 rfl (rE_keep t4 rfl w4)⟩, fun k hk => ?_⟩
  by_cases e : k = 1
  · subst e
    exact ⟨1, rE_keep u4 rfl t5, u5, Or.inr ⟨rfl, w, fI_keep u4 rfl w2, u7 w (rE_keep t4 rfl w4)⟩⟩
  · obtain ⟨b, b1, b2, b3⟩ := hi.2.2.2 k hk
    refine ⟨b, rE_keep u4 rfl (t6 k hk e b b1), u6 k hk e b (rE_keep t4 rfl b2), ?_⟩
    rcases b3 with b3 | ⟨b3, v, v1, v2⟩
    · exact Or.inl b3
    · refine Or.inr ⟨b3, v, ?_, u8 k hk e v (rE_keep t4 rfl v2)⟩
      have : k = 0 ∨ k = 2 ∨ k = 3 := by omega
      rcases this with rfl | rfl | rfl <;> exact fI_keep u4 rfl (fI_keep t4 rfl v1)
theorem back_pair1 {h : List cC} (hi : INV h) {a : Int32} (ha : a.toInt = 1) : ∃ (r r' : Int32) (h1 h2 : List cC), Trm 4 97 [cR 0, cI a] h (some (cI r)) h1 ∧ HG TT [] h1 ∧ (NSh h → NSh h2) ∧ Trm 4 155 [cR 170, cI a] h1 (some (cI r')) h2 ∧ INV h2 := by
  obtain ⟨b, b1, b2, b3⟩ := hi.2.2.2 1 (by decide)
  rcases b3 with b3 | ⟨b3, v, v1, v2⟩
  · subst b3
    obtain ⟨r, h1, t1, t2, t3, t4⟩ := bkZ1 hi.1 hi.2.1 ha b1
    obtain ⟨r', h2, u1, u2, u3, u4⟩ := bkY1 t2 t3 ha (rE_keep t4 rfl b2)
    have fr : Fr [] [] h h2 := Fr_tr2 (W1 := []) (W2 := []) rfl rfl t4 u4
    obtain ⟨w, w1, w2⟩ := hi.2.2.1
    exact ⟨r, r', h1, h2, Trm_le (by decide) t1, t2, (fun n => NSh_sm hi.1 (SM_of fr rfl rfl) n), Trm_le (by decide) u1, u2, u3, ⟨w, fI_keep fr rfl w1, rE_keep fr rfl w2⟩, INV_mid hi fr (fun _ _ => rfl) rfl rfl rfl⟩
  · subst b3
    obtain ⟨r, h1, t1, t2, t3, t4, t5⟩ := bkX1 hi ha b1 v1
    obtain ⟨r', h2, u1, u2, u3, u4, u9, u5⟩ := bkM1 t2 t3 (rE_keep t4 rfl b2) ha
    refine ⟨r, r', h1, h2, t1, t2, (fun n => u9 (NSh_sm hi.1 (SM_of t4 rfl rfl) n)), Trm_le (by decide) u1, u2, u3, ⟨v, fI_keep u4 rfl t5, u5 v (rE_keep t4 rfl v2)⟩, ?_⟩
    have fr : Fr [] ((183, 1000) :: fn_backX11.2.2.2.2.2.1) h h2 := Fr_tr2 (W1 := fn_backX11.2.2.2.2.2.1) (W2 := [(183, 1000)]) (by decide) (by decide) t4 u4
    exact INV_mid hi fr (fun k hk => by
      have : k = 0 ∨ k = 1 ∨ k = 2 ∨ k = 3 := by omega
      rcases this with rfl | rfl | rfl | rfl <;> rfl) rfl rfl rfl
theorem bkX2 {h : List cC} (hi : INV h) {a : Int32} (ha : a.toInt = 2) (hm : rE h 78 2 = some 1) {v : Int32} (hv : fI h 61 3 = some v) : ∃ (r : Int32) (h1 : List cC), Trm 4 97 [cR 0, cI a] h (some (cI r)) h1 ∧ HG TT [] h1 ∧ J9 h1 ∧ Fr [] fn_backX21.2.2.2.2.2.1 h h1 ∧ fI h1 21 3 = some v := by
  obtain ⟨v', x1, x2, x3⟩ := HG_f hi.1 (k := 61) (j := 3) (b := (0, 20)) rfl rfl
  rw [hv] at x1
  cases x1
  dsimp only at x2 x3
  obtain ⟨ci, vs, f1, f2⟩ := fI_inv hv
  obtain ⟨r, h1, t1, t2, t3, t4, o, o1, ρ', o2, o3, o4, o5, o6⟩ := ft_backX21 [v.toInt] [cR 0, cI a] h hi.1 (bcons ⟨x2, x3⟩ bnil) (fun q hq => by
    have e := List.mem_singleton.mp hq
    subst e
    exact c_okR hm rfl) ⟨⟨0, List.mem_singleton.mpr rfl, rfl⟩, ⟨a, rfl, ha⟩, trivial⟩ (fun q hq => by
    have e := List.mem_singleton.mp hq
    subst e
    exact ⟨ci, vs, _, f1, f2, vxs rfl⟩) hi.2.1
  have e := List.mem_singleton.mp o1
  subst e
  have r0 : ρ'[0]? = some v.toInt := at_mono o2 rfl
  cases r with
  | none => exact o6.elim
  | some u =>
    obtain ⟨x, ex, _⟩ := o6
    subst ex
    exact ⟨x, h1, t1, t2, t4, t3, okF_fI o5 (List.mem_of_getElem? (i := 0) rfl) r0⟩
theorem bkZ2 {h : List cC} (hG : HG TT [] h) (hJ : J9 h) {a : Int32} (ha : a.toInt = 2) (hm : rE h 78 2 = some 0) : ∃ (r : Int32) (h1 : List cC), Trm 1 97 [cR 0, cI a] h (some (cI r)) h1 ∧ HG TT [] h1 ∧ J9 h1 ∧ Fr [] [] h h1 := by
  obtain ⟨r, h1, t1, t2, t3, t4, o, o1, ρ', o2, o3, o4, o5, o6⟩ := ft_backX20 [] [cR 0, cI a] h hG bnil (fun q hq => by
    have e := List.mem_singleton.mp hq
    subst e
    exact c_okR hm rfl) ⟨⟨0, List.mem_singleton.mpr rfl, rfl⟩, ⟨a, rfl, ha⟩, trivial⟩ (fun q hq => by cases hq) hJ
  have e := List.mem_singleton.mp o1
  subst e
  obtain ⟨x, ex, _⟩ := ret_c o6
  subst ex
  exact ⟨x, h1, t1, t2, t4, t3⟩
theorem bkY2 {h : List cC} (hG : HG TT [] h) (hJ : J9 h) {a : Int32} (ha : a.toInt = 2) (hm : rE h 204 2 = some 0) : ∃ (r : Int32) (h1 : List cC), Trm 2 155 [cR 170, cI a] h (some (cI r)) h1 ∧ HG TT [] h1 ∧ J9 h1 ∧ Fr [] [] h h1 := by
  obtain ⟨r, h1, t1, t2, t3, t4, o, o1, ρ', o2, o3, o4, o5, o6⟩ := ft_backM20 [] [cR 170, cI a] h hG bnil (fun q hq => by
    have e := List.mem_singleton.mp hq
    subst e
    exact c_okR hm rfl) ⟨⟨170, List.mem_singleton.mpr rfl, rfl⟩, ⟨a, rfl, ha⟩, trivial⟩ (fun q hq => by cases hq) hJ
  have e := List.mem_singleton.mp o1
  subst e
  obtain ⟨x, ex, _⟩ := ret_c o6
  subst ex
  exact ⟨x, h1, t1, t2, t4, t3⟩
theorem bkM2 {h : List cC} (hG : HG TT [] h) (hJ : J9 h) (hm : rE h 204 2 = some 1) {a : Int32} (ha : a.toInt = 2) : ∃ (r : Int32) (h2 : List cC), Trm 2 155 [cR 170, cI a] h (some (cI r)) h2 ∧ HG TT [] h2 ∧ J9 h2 ∧ Fr [] [(183, 1000)] h h2 ∧ (NSh h → NSh h2) ∧ ∀ v : Int32, rE h 203 463 = some v → rE h2 183 3 = some v := by
  obtain ⟨S2, ρ2, z1, z2, z3, z4, z5, z6, z7, z8, z9⟩ := Obl_oneR (chkL_ok J9_okf q1f bA2_k) (ρ := []) rfl (S := (0, [(0, cR 170), (1, cI a)], [], h)) rfl hG bnil (fun q hq => by
    simp only [bA2A, List.mem_cons, List.not_mem_nil, or_false] at hq
    subst hq
    exact c_okR hm rfl) (fun q hq => by
    simp only [bA2A, List.mem_cons, List.not_mem_nil, or_false] at hq
    rcases hq with rfl | rfl
    · exact ⟨_, rfl, 170, List.mem_singleton.mpr rfl, rfl⟩
    · exact ⟨_, rfl, a, rfl, ha⟩) trivial (fun q hq => by cases hq) hJ
  obtain ⟨Spc, Sls, Sst, Sh⟩ := S2
  dsimp only [bA2T] at z1 z2 z3 z4 z5 z6 z7 z8 z9
  have e2 : Sst = [] := by
    cases Sst with
    | nil => rfl
    | cons _ _ => exact z8.elim
  subst z4 e2
  have k0 := vR z7 (j := 0) (List.mem_of_getElem? (i := 0) rfl)
  obtain ⟨a1, k1, y1⟩ := vC z7 (List.mem_of_getElem? (i := 1) rfl)
  obtain ⟨a2, k2, y2⟩ := vC z7 (List.mem_of_getElem? (i := 2) rfl)
  obtain ⟨f, g1, g2⟩ := HG_sa z5
  obtain ⟨g, g3, g4⟩ := HG_im z5
  obtain ⟨ls2, ff, w1, w2, w3, w4, w5⟩ := bk_loop (call := calF (Trm 1)) (k := a1) (by omega) g4 230 a2 Sls Sh f z5 g3 g1 ⟨k0, k1, k2⟩ (by omega) (by omega)
  have hJ2 : J9 (Sh.set 183 (.inr (.inl (0, 230, ff)))) := J9_set z3 (by decide)
  obtain ⟨S3, v1, v2, v3⟩ := (chkL_ok J9_okf q0f bE_k : Obl P9f W0 1 eM155 0 bEU bET bEA) [] rfl (Sh.set 183 (.inr (.inl (0, 230, ff)))) [] (56, ls2, [], Sh.set 183 (.inr (.inl (0, 230, ff)))) rfl w2 bnil ⟨List.prefix_rfl, (fun q hq => by cases hq)⟩ (fun q hq => by
    have e := List.mem_singleton.mp hq
    subst e
    exact ⟨_, w3, 170, List.mem_singleton.mpr rfl, rfl⟩) trivial (fun q hq => by cases hq) ⟨Fr.rf, hJ2⟩
  rcases v3 with ⟨l2, q1, _⟩ | ⟨r, p1, p2, o, o1, ρ', o2, o3, o4, o5⟩
  · cases q1
  · have eo := List.mem_singleton.mp o1
    subst eo
    cases r with
    | none => exact o5.elim
    | some vv =>
      obtain ⟨x, ex, _⟩ := o5
      subst ex
      have fr : Fr [] [(183, 1000)] h S3.2.2.2 := Fr_tr2 (W1 := [(183, 1000)]) (W2 := W0) rfl rfl (Fr_tr2 (W1 := W0) (W2 := [(183, 1000)]) rfl rfl z2 (Fr_183 g1)) v2.1
      have nsh : NSh h → NSh S3.2.2.2 := fun n => NSh_sm w2 (SM_of v2.1 rfl rfl) (NSh_bk g1 g3 w2 (a := a1.toInt.toNat) (by omega) (fun m hm => w4 m (by omega) hm) (NSh_sm hG (SM_of z2 rfl rfl) n))
      refine ⟨x, S3.2.2.2, Trm_succ.mpr ⟨eM155, S3, rfl, (show 2 ≤ m_L eM155 by decide), z1.trans (w1.trans v1), p1⟩, p2, v2.2, fr, nsh, fun v hv => ?_⟩
      have hv2 : rE Sh 203 463 = some v := rE_keep z2 rfl hv
      rw [rE_at _ g3] at hv2
      have h6 := w4 3 (by omega) (by omega)
      have h7 : rE (Sh.set 183 (.inr (.inl (0, 230, ff)))) 183 3 = some (ff 3) := rE_at 3 (List.getElem?_set_self (List.getElem?_eq_some_iff.mp g1).1)
      have h8 := rE_keep v2.1 rfl h7
      rw [h6, show 230 * a1.toInt.toNat + 3 = 463 by omega] at h8
      rw [h8]
      exact hv2
theorem image_pair2 {h : List cC} (hi : INV h) {a : Int32} (ha : a.toInt = 2) : ∃ (r r' : Int32) (h1 h2 : List cC), Trm 4 113 [cR 0, cI a] h (some (cI r)) h1 ∧ HG TT [] h1 ∧ (NSh h → NSh h2) ∧ Trm 4 188 [cR 170, cI a] h1 (some (cI r')) h2 ∧ INV h2 := by
  obtain ⟨r, h1, t1, t2, t3, t4, ⟨w, w1, w2⟩, t5, t6⟩ := imX2 hi ha
  obtain ⟨w', w3, w4⟩ := hi.2.2.1
  rw [w1] at w3
  cases w3
  obtain ⟨r', h2, u1, u2, u3, u4, u5, u6, u7, u9, u8⟩ := imM2 t2 t3 (fun k hk => by
    obtain ⟨b, _, b2, _⟩ := hi.2.2.2 k hk
    exact ⟨b, rE_keep t4 rfl b2⟩) ha
  refine ⟨r, r', h1, h2, t1, t2, (fun n => u9 (NSh_sm hi.1 (SM_of t4 rfl rfl) n)), Trm_le (by decide) u1, u2, u3, ⟨w, fI_keep u4 rfl (fI_keep t4 rfl w1), rE_keep u4 rfl (rE_keep t4 rfl w4)⟩, fun k hk => ?_⟩
  by_cases e : k = 2
  · subst e
    exact ⟨1, rE_keep u4 rfl t5, u5, Or.inr ⟨rfl, w, fI_keep u4 rfl w2, u7 w (rE_keep t4 rfl w4)⟩⟩
  · obtain ⟨b, b1, b2, b3⟩ := hi.2.2.2 k hk
    refine ⟨b, rE_keep u4 rfl (t6 k hk e b b1), u6 k hk e b (rE_keep t4 rfl b2), ?_⟩
    rcases b3 with b3 | ⟨b3, v, v1, v2⟩
    · exact Or.inl b3
    · refine Or.inr ⟨b3, v, ?_, u8 k hk e v (rE_keep t4 rfl v2)⟩
      have : k = 0 ∨ k = 1 ∨ k = 3 := by omega
      rcases this with rfl | rfl | rfl <;> exact fI_keep u4 rfl (fI_keep t4 rfl v1)
theorem back_pair2 {h : List cC} (hi : INV h) {a : Int32} (ha : a.toInt = 2) : ∃ (r r' : Int32) (h1 h2 : List cC), Trm 4 97 [cR 0, cI a] h (some (cI r)) h1 ∧ HG TT [] h1 ∧ (NSh h → NSh h2) ∧ Trm 4 155 [cR 170, cI a] h1 (some (cI r')) h2 ∧ INV h2 := by
  obtain ⟨b, b1, b2, b3⟩ := hi.2.2.2 2 (by decide)
  rcases b3 with b3 | ⟨b3, v, v1, v2⟩
  · subst b3
    obtain ⟨r, h1, t1, t2, t3, t4⟩ := bkZ2 hi.1 hi.2.1 ha b1
    obtain ⟨r', h2, u1, u2, u3, u4⟩ := bkY2 t2 t3 ha (rE_keep t4 rfl b2)
    have fr : Fr [] [] h h2 := Fr_tr2 (W1 := []) (W2 := []) rfl rfl t4 u4
    obtain ⟨w, w1, w2⟩ := hi.2.2.1
    exact ⟨r, r', h1, h2, Trm_le (by decide) t1, t2, (fun n => NSh_sm hi.1 (SM_of fr rfl rfl) n), Trm_le (by decide) u1, u2, u3, ⟨w, fI_keep fr rfl w1, rE_keep fr rfl w2⟩, INV_mid hi fr (fun _ _ => rfl) rfl rfl rfl⟩
  · subst b3
    obtain ⟨r, h1, t1, t2, t3, t4, t5⟩ := bkX2 hi ha b1 v1
    obtain ⟨r', h2, u1, u2, u3, u4, u9, u5⟩ := bkM2 t2 t3 (rE_keep t4 rfl b2) ha
    refine ⟨r, r', h1, h2, t1, t2, (fun n => u9 (NSh_sm hi.1 (SM_of t4 rfl rfl) n)), Trm_le (by decide) u1, u2, u3, ⟨v, fI_keep u4 rfl t5, u5 v (rE_keep t4 rfl v2)⟩, ?_⟩
    have fr : Fr [] ((183, 1000) :: fn_backX21.2.2.2.2.2.1) h h2 := Fr_tr2 (W1 := fn_backX21.2.2.2.2.2.1) (W2 := [(183, 1000)]) (by decide) (by decide) t4 u4
    exact INV_mid hi fr (fun k hk => by
      have : k = 0 ∨ k = 1 ∨ k = 2 ∨ k = 3 := by omega
      rcases this with rfl | rfl | rfl | rfl <;> rfl) rfl rfl rfl
theorem bkX3 {h : List cC} (hi : INV h) {a : Int32} (ha : a.toInt = 3) (hm : rE h 78 3 = some 1) {v : Int32} (hv : fI h 74 3 = some v) : ∃ (r : Int32) (h1 : List cC), Trm 4 97 [cR 0, cI a] h (some (cI r)) h1 ∧ HG TT [] h1 ∧ J9 h1 ∧ Fr [] fn_backX31.2.2.2.2.2.1 h h1 ∧ fI h1 21 3 = some v := by
  obtain ⟨v', x1, x2, x3⟩ := HG_f hi.1 (k := 74) (j := 3) (b := (0, 20)) rfl rfl
  rw [hv] at x1
  cases x1
  dsimp only at x2 x3
  obtain ⟨ci, vs, f1, f2⟩ := fI_inv hv
  obtain ⟨r, h1, t1, t2, t3, t4, o, o1, ρ', o2, o3, o4, o5, o6⟩ := ft_backX31 [v.toInt] [cR 0, cI a] h hi.1 (bcons ⟨x2, x3⟩ bnil) (fun q hq => by
    have e := List.mem_singleton.mp hq
    subst e
    exact c_okR hm rfl) ⟨⟨0, List.mem_singleton.mpr rfl, rfl⟩, ⟨a, rfl, ha⟩, trivial⟩ (fun q hq => by
    have e := List.mem_singleton.mp hq
    subst e
    exact ⟨ci, vs, _, f1, f2, vxs rfl⟩) hi.2.1
  have e := List.mem_singleton.mp o1
  subst e
  have r0 : ρ'[0]? = some v.toInt := at_mono o2 rfl
  cases r with
  | none => exact o6.elim
  | some u =>
    obtain ⟨x, ex, _⟩ := o6
    subst ex
    exact ⟨x, h1, t1, t2, t4, t3, okF_fI o5 (List.mem_of_getElem? (i := 0) rfl) r0⟩
theorem bkZ3 {h : List cC} (hG : HG TT [] h) (hJ : J9 h) {a : Int32} (ha : a.toInt = 3) (hm : rE h 78 3 = some 0) : ∃ (r : Int32) (h1 : List cC), Trm 1 97 [cR 0, cI a] h (some (cI r)) h1 ∧ HG TT [] h1 ∧ J9 h1 ∧ Fr [] [] h h1 := by
  obtain ⟨r, h1, t1, t2, t3, t4, o, o1, ρ', o2, o3, o4, o5, o6⟩ := ft_backX30 [] [cR 0, cI a] h hG bnil (fun q hq => by
    have e := List.mem_singleton.mp hq
    subst e
    exact c_okR hm rfl) ⟨⟨0, List.mem_singleton.mpr rfl, rfl⟩, ⟨a, rfl, ha⟩, trivial⟩ (fun q hq => by cases hq) hJ
  have e := List.mem_singleton.mp o1
  subst e
  obtain ⟨x, ex, _⟩ := ret_c o6
  subst ex
  exact ⟨x, h1, t1, t2, t4, t3⟩
theorem bkY3 {h : List cC} (hG : HG TT [] h) (hJ : J9 h) {a : Int32} (ha : a.toInt = 3) (hm : rE h 204 3 = some 0) : ∃ (r : Int32) (h1 : List cC), Trm 2 155 [cR 170, cI a] h (some (cI r)) h1 ∧ HG TT [] h1 ∧ J9 h1 ∧ Fr [] [] h h1 := by
  obtain ⟨r, h1, t1, t2, t3, t4, o, o1, ρ', o2, o3, o4, o5, o6⟩ := ft_backM30 [] [cR 170, cI a] h hG bnil (fun q hq => by
    have e := List.mem_singleton.mp hq
    subst e
    exact c_okR hm rfl) ⟨⟨170, List.mem_singleton.mpr rfl, rfl⟩, ⟨a, rfl, ha⟩, trivial⟩ (fun q hq => by cases hq) hJ
  have e := List.mem_singleton.mp o1
  subst e
  obtain ⟨x, ex, _⟩ := ret_c o6
  subst ex
  exact ⟨x, h1, t1, t2, t4, t3⟩
theorem bkM3 {h : List cC} (hG : HG TT [] h) (hJ : J9 h) (hm : rE h 204 3 = some 1) {a : Int32} (ha : a.toInt = 3) : ∃ (r : Int32) (h2 : List cC), Trm 2 155 [cR 170, cI a] h (some (cI r)) h2 ∧ HG TT [] h2 ∧ J9 h2 ∧ Fr [] [(183, 1000)] h h2 ∧ (NSh h → NSh h2) ∧ ∀ v : Int32, rE h 203 693 = some v → rE h2 183 3 = some v := by
  obtain ⟨S2, ρ2, z1, z2, z3, z4, z5, z6, z7, z8, z9⟩ := Obl_oneR (chkL_ok J9_okf q1f bA3_k) (ρ := []) rfl (S := (0, [(0, cR 170), (1, cI a)], [], h)) rfl hG bnil (fun q hq => by
    simp only [bA3A, List.mem_cons, List.not_mem_nil, or_false] at hq
    subst hq
    exact c_okR hm rfl) (fun q hq => by
    simp only [bA3A, List.mem_cons, List.not_mem_nil, or_false] at hq
    rcases hq with rfl | rfl
    · exact ⟨_, rfl, 170, List.mem_singleton.mpr rfl, rfl⟩
    · exact ⟨_, rfl, a, rfl, ha⟩) trivial (fun q hq => by cases hq) hJ
  obtain ⟨Spc, Sls, Sst, Sh⟩ := S2
  dsimp only [bA3T] at z1 z2 z3 z4 z5 z6 z7 z8 z9
  have e2 : Sst = [] := by
    cases Sst with
    | nil => rfl
    | cons _ _ => exact z8.elim
  subst z4 e2
  have k0 := vR z7 (j := 0) (List.mem_of_getElem? (i := 0) rfl)
  obtain ⟨a1, k1, y1⟩ := vC z7 (List.mem_of_getElem? (i := 1) rfl)
  obtain ⟨a2, k2, y2⟩ := vC z7 (List.mem_of_getElem? (i := 2) rfl)
  obtain ⟨f, g1, g2⟩ := HG_sa z5
  obtain ⟨g, g3, g4⟩ := HG_im z5
  obtain ⟨ls2, ff, w1, w2, w3, w4, w5⟩ := bk_loop (call := calF (Trm 1)) (k := a1) (by omega) g4 230 a2 Sls Sh f z5 g3 g1 ⟨k0, k1, k2⟩ (by omega) (by omega)
  have hJ2 : J9 (Sh.set 183 (.inr (.inl (0, 230, ff)))) := J9_set z3 (by decide)
  obtain ⟨S3, v1, v2, v3⟩ := (chkL_ok J9_okf q0f bE_k : Obl P9f W0 1 eM155 0 bEU bET bEA) [] rfl (Sh.set 183 (.inr (.inl (0, 230, ff)))) [] (56, ls2, [], Sh.set 183 (.inr (.inl (0, 230, ff)))) rfl w2 bnil ⟨List.prefix_rfl, (fun q hq => by cases hq)⟩ (fun q hq => by
    have e := List.mem_singleton.mp hq
    subst e
    exact ⟨_, w3, 170, List.mem_singleton.mpr rfl, rfl⟩) trivial (fun q hq => by cases hq) ⟨Fr.rf, hJ2⟩
  rcases v3 with ⟨l2, q1, _⟩ | ⟨r, p1, p2, o, o1, ρ', o2, o3, o4, o5⟩
  · cases q1
  · have eo := List.mem_singleton.mp o1
    subst eo
    cases r with
    | none => exact o5.elim
    | some vv =>
      obtain ⟨x, ex, _⟩ := o5
      subst ex
      have fr : Fr [] [(183, 1000)] h S3.2.2.2 := Fr_tr2 (W1 := [(183, 1000)]) (W2 := W0) rfl rfl (Fr_tr2 (W1 := W0) (W2 := [(183, 1000)]) rfl rfl z2 (Fr_183 g1)) v2.1
      have nsh : NSh h → NSh S3.2.2.2 := fun n => NSh_sm w2 (SM_of v2.1 rfl rfl) (NSh_bk g1 g3 w2 (a := a1.toInt.toNat) (by omega) (fun m hm => w4 m (by omega) hm) (NSh_sm hG (SM_of z2 rfl rfl) n))
      refine ⟨x, S3.2.2.2, Trm_succ.mpr ⟨eM155, S3, rfl, (show 2 ≤ m_L eM155 by decide), z1.trans (w1.trans v1), p1⟩, p2, v2.2, fr, nsh, fun v hv => ?_⟩
      have hv2 : rE Sh 203 693 = some v := rE_keep z2 rfl hv
      rw [rE_at _ g3] at hv2
      have h6 := w4 3 (by omega) (by omega)
      have h7 : rE (Sh.set 183 (.inr (.inl (0, 230, ff)))) 183 3 = some (ff 3) := rE_at 3 (List.getElem?_set_self (List.getElem?_eq_some_iff.mp g1).1)
      have h8 := rE_keep v2.1 rfl h7
      rw [h6, show 230 * a1.toInt.toNat + 3 = 693 by omega] at h8
      rw [h8]
      exact hv2
theorem image_pair3 {h : List cC} (hi : INV h) {a : Int32} (ha : a.toInt = 3) : ∃ (r r' : Int32) (h1 h2 : List cC), Trm 4 113 [cR 0, cI a] h (some (cI r)) h1 ∧ HG TT [] h1 ∧ (NSh h → NSh h2) ∧ Trm 4 188 [cR 170, cI a] h1 (some (cI r')) h2 ∧ INV h2 := by
  obtain ⟨r, h1, t1, t2, t3, t4, ⟨w, w1, w2⟩, t5, t6⟩ := imX3 hi ha
  obtain ⟨w', w3, w4⟩ := hi.2.2.1
  rw [w1] at w3
  cases w3
  obtain ⟨r', h2, u1, u2, u3, u4, u5, u6, u7, u9, u8⟩ := imM3 t2 t3 (fun k hk => by
    obtain ⟨b, _, b2, _⟩ := hi.2.2.2 k hk
    exact ⟨b, rE_keep t4 rfl b2⟩) ha
  refine ⟨r, r', h1, h2, t1, t2, (fun n => u9 (NSh_sm hi.1 (SM_of t4 rfl rfl) n)), Trm_le (by decide) u1, u2, u3, ⟨w, fI_keep u4 rfl (fI_keep t4 rfl w1), rE_keep u4 rfl (rE_keep t4 rfl w4)⟩, fun k hk => ?_⟩
  by_cases e : k = 3
  · subst e
    exact ⟨1, rE_keep u4 rfl t5, u5, Or.inr ⟨rfl, w, fI_keep u4 rfl w2, u7 w (rE_keep t4 rfl w4)⟩⟩
  · obtain ⟨b, b1, b2, b3⟩ := hi.2.2.2 k hk
    refine ⟨b, rE_keep u4 rfl (t6 k hk e b b1), u6 k hk e b (rE_keep t4 rfl b2), ?_⟩
    rcases b3 with b3 | ⟨b3, v, v1, v2⟩
    · exact Or.inl b3
    · refine Or.inr ⟨b3, v, ?_, u8 k hk e v (rE_keep t4 rfl v2)⟩
      have : k = 0 ∨ k = 1 ∨ k = 2 := by omega
      rcases this with rfl | rfl | rfl <;> exact fI_keep u4 rfl (fI_keep t4 rfl v1)
theorem back_pair3 {h : List cC} (hi : INV h) {a : Int32} (ha : a.toInt = 3) : ∃ (r r' : Int32) (h1 h2 : List cC), Trm 4 97 [cR 0, cI a] h (some (cI r)) h1 ∧ HG TT [] h1 ∧ (NSh h → NSh h2) ∧ Trm 4 155 [cR 170, cI a] h1 (some (cI r')) h2 ∧ INV h2 := by
  obtain ⟨b, b1, b2, b3⟩ := hi.2.2.2 3 (by decide)
  rcases b3 with b3 | ⟨b3, v, v1, v2⟩
  · subst b3
    obtain ⟨r, h1, t1, t2, t3, t4⟩ := bkZ3 hi.1 hi.2.1 ha b1
    obtain ⟨r', h2, u1, u2, u3, u4⟩ := bkY3 t2 t3 ha (rE_keep t4 rfl b2)
    have fr : Fr [] [] h h2 := Fr_tr2 (W1 := []) (W2 := []) rfl rfl t4 u4
    obtain ⟨w, w1, w2⟩ := hi.2.2.1
    exact ⟨r, r', h1, h2, Trm_le (by decide) t1, t2, (fun n => NSh_sm hi.1 (SM_of fr rfl rfl) n), Trm_le (by decide) u1, u2, u3, ⟨w, fI_keep fr rfl w1, rE_keep fr rfl w2⟩, INV_mid hi fr (fun _ _ => rfl) rfl rfl rfl⟩
  · subst b3
    obtain ⟨r, h1, t1, t2, t3, t4, t5⟩ := bkX3 hi ha b1 v1
    obtain ⟨r', h2, u1, u2, u3, u4, u9, u5⟩ := bkM3 t2 t3 (rE_keep t4 rfl b2) ha
    refine ⟨r, r', h1, h2, t1, t2, (fun n => u9 (NSh_sm hi.1 (SM_of t4 rfl rfl) n)), Trm_le (by decide) u1, u2, u3, ⟨v, fI_keep u4 rfl t5, u5 v (rE_keep t4 rfl v2)⟩, ?_⟩
    have fr : Fr [] ((183, 1000) :: fn_backX31.2.2.2.2.2.1) h h2 := Fr_tr2 (W1 := fn_backX31.2.2.2.2.2.1) (W2 := [(183, 1000)]) (by decide) (by decide) t4 u4
    exact INV_mid hi fr (fun k hk => by
      have : k = 0 ∨ k = 1 ∨ k = 2 ∨ k = 3 := by omega
      rcases this with rfl | rfl | rfl | rfl <;> rfl) rfl rfl rfl
theorem image_pair {h : List cC} (hi : INV h) (a : Int32) : ∃ (r r' : Int32) (h1 h2 : List cC), Trm 4 113 [cR 0, cI a] h (some (cI r)) h1 ∧ HG TT [] h1 ∧ (NSh h → NSh h2) ∧ Trm 4 188 [cR 170, cI a] h1 (some (cI r')) h2 ∧ INV h2 := by
  have fin : ∀ (r r' : Option cV) (h1 h2 : List cC) (d1 d2 : Nat), d1 ≤ 4 → d2 ≤ 4 → Trm d1 113 [cR 0, cI a] h r h1 → HG TT [] h1 → Trm d2 188 [cR 170, cI a] h1 r' h2 → HG TT [] h2 → J9 h2 → Fr [] [] h h1 → Fr [] [] h1 h2 → (∃ x : Int32, r = some (cI x)) → (∃ x : Int32, r' = some (cI x)) → ∃ (r r' : Int32) (h1 h2 : List cC), Trm 4 113 [cR 0, cI a] h (some (cI r)) h1 ∧ HG TT [] h1 ∧ (NSh h → NSh h2) ∧ Trm 4 188 [cR 170, cI a] h1 (some (cI r')) h2 ∧ INV h2 := fun r r' h1 h2 d1 d2 l1 l2 t1 gm t2 g j f1 f2 ⟨x, ex⟩ ⟨y, ey⟩ => by
    subst ex ey
    have fr : Fr [] [] h h2 := Fr_tr2 (W1 := []) (W2 := []) rfl rfl f1 f2
    obtain ⟨w, w1, w2⟩ := hi.2.2.1
    exact ⟨x, y, h1, h2, Trm_le l1 t1, gm, (fun n => NSh_sm hi.1 (SM_of fr rfl rfl) n), Trm_le l2 t2, g, j, ⟨w, fI_keep fr rfl w1, rE_keep fr rfl w2⟩, INV_mid hi fr (fun _ _ => rfl) rfl rfl rfl⟩
  by_cases h0 : a.toInt < 0
  · have hb : bt2 (-2147483648, -1) a.toInt := ⟨(in_f32 a).1, by show _ ≤ (-1 : Int); omega⟩
    obtain ⟨r, h1, t1, t2, t3, t4, o, o1, ρ', o2, o3, o4, o5, o6⟩ := ft_imageXn [a.toInt] [cR 0, cI a] h hi.1 (bcons hb bnil) (fun q hq => by cases hq) ⟨⟨0, List.mem_singleton.mpr rfl, rfl⟩, vxs rfl, trivial⟩ (fun q hq => by cases hq) hi.2.1
    obtain ⟨r', h2, u1, u2, u3, u4, p, p1, σ, p2, p3, p4, p5, p6⟩ := ft_imageMn [a.toInt] [cR 170, cI a] h1 t2 (bcons hb bnil) (fun q hq => by cases hq) ⟨⟨170, List.mem_singleton.mpr rfl, rfl⟩, vxs rfl, trivial⟩ (fun q hq => by cases hq) t4
    have e := List.mem_singleton.mp o1
    have e' := List.mem_singleton.mp p1
    subst e e'
    obtain ⟨x, ex, _⟩ := ret_c o6
    obtain ⟨y, ey, _⟩ := ret_c p6
    exact fin r r' h1 h2 _ _ (by decide) (by decide) t1 t2 u1 u2 u4 t3 u3 ⟨x, ex⟩ ⟨y, ey⟩
  · by_cases h4 : 4 ≤ a.toInt
    · have hb : bt2 (4, 2147483647) a.toInt := ⟨h4, (in_f32 a).2⟩
      obtain ⟨r, h1, t1, t2, t3, t4, o, o1, ρ', o2, o3, o4, o5, o6⟩ := ft_imageXp [a.toInt] [cR 0, cI a] h hi.1 (bcons hb bnil) (fun q hq => by cases hq) ⟨⟨0, List.mem_singleton.mpr rfl, rfl⟩, vxs rfl, trivial⟩ (fun q hq => by cases hq) hi.2.1
      obtain ⟨r', h2, u1, u2, u3, u4, p, p1, σ, p2, p3, p4, p5, p6⟩ := ft_imageMp [a.toInt] [cR 170, cI a] h1 t2 (bcons hb bnil) (fun q hq => by cases hq) ⟨⟨170, List.mem_singleton.mpr rfl, rfl⟩, vxs rfl, trivial⟩ (fun q hq => by cases hq) t4
      have e := List.mem_singleton.mp o1
      have e' := List.mem_singleton.mp p1
      subst e e'
      obtain ⟨x, ex, _⟩ := ret_c o6
      obtain ⟨y, ey, _⟩ := ret_c p6
      exact fin r r' h1 h2 _ _ (by decide) (by decide) t1 t2 u1 u2 u4 t3 u3 ⟨x, ex⟩ ⟨y, ey⟩
    · have : a.toInt = 0 ∨ a.toInt = 1 ∨ a.toInt = 2 ∨ a.toInt = 3 := by omega
      rcases this with e | e | e | e
      · exact image_pair0 hi e
      · exact image_pair1 hi e
      · exact image_pair2 hi e
      · exact image_pair3 hi e
theorem back_pair {h : List cC} (hi : INV h) (a : Int32) : ∃ (r r' : Int32) (h1 h2 : List cC), Trm 4 97 [cR 0, cI a] h (some (cI r)) h1 ∧ HG TT [] h1 ∧ (NSh h → NSh h2) ∧ Trm 4 155 [cR 170, cI a] h1 (some (cI r')) h2 ∧ INV h2 := by
  have fin : ∀ (r r' : Option cV) (h1 h2 : List cC) (d1 d2 : Nat), d1 ≤ 4 → d2 ≤ 4 → Trm d1 97 [cR 0, cI a] h r h1 → HG TT [] h1 → Trm d2 155 [cR 170, cI a] h1 r' h2 → HG TT [] h2 → J9 h2 → Fr [] [] h h1 → Fr [] [] h1 h2 → (∃ x : Int32, r = some (cI x)) → (∃ x : Int32, r' = some (cI x)) → ∃ (r r' : Int32) (h1 h2 : List cC), Trm 4 97 [cR 0, cI a] h (some (cI r)) h1 ∧ HG TT [] h1 ∧ (NSh h → NSh h2) ∧ Trm 4 155 [cR 170, cI a] h1 (some (cI r')) h2 ∧ INV h2 := fun r r' h1 h2 d1 d2 l1 l2 t1 gm t2 g j f1 f2 ⟨x, ex⟩ ⟨y, ey⟩ => by
    subst ex ey
    have fr : Fr [] [] h h2 := Fr_tr2 (W1 := []) (W2 := []) rfl rfl f1 f2
    obtain ⟨w, w1, w2⟩ := hi.2.2.1
    exact ⟨x, y, h1, h2, Trm_le l1 t1, gm, (fun n => NSh_sm hi.1 (SM_of fr rfl rfl) n), Trm_le l2 t2, g, j, ⟨w, fI_keep fr rfl w1, rE_keep fr rfl w2⟩, INV_mid hi fr (fun _ _ => rfl) rfl rfl rfl⟩
  by_cases h0 : a.toInt < 0
  · have hb : bt2 (-2147483648, -1) a.toInt := ⟨(in_f32 a).1, by show _ ≤ (-1 : Int); omega⟩
    obtain ⟨r, h1, t1, t2, t3, t4, o, o1, ρ', o2, o3, o4, o5, o6⟩ := ft_backXn [a.toInt] [cR 0, cI a] h hi.1 (bcons hb bnil) (fun q hq => by cases hq) ⟨⟨0, List.mem_singleton.mpr rfl, rfl⟩, vxs rfl, trivial⟩ (fun q hq => by cases hq) hi.2.1
    obtain ⟨r', h2, u1, u2, u3, u4, p, p1, σ, p2, p3, p4, p5, p6⟩ := ft_backMn [a.toInt] [cR 170, cI a] h1 t2 (bcons hb bnil) (fun q hq => by cases hq) ⟨⟨170, List.mem_singleton.mpr rfl, rfl⟩, vxs rfl, trivial⟩ (fun q hq => by cases hq) t4
    have e := List.mem_singleton.mp o1
    have e' := List.mem_singleton.mp p1
    subst e e'
    obtain ⟨x, ex, _⟩ := ret_c o6
    obtain ⟨y, ey, _⟩ := ret_c p6
    exact fin r r' h1 h2 _ _ (by decide) (by decide) t1 t2 u1 u2 u4 t3 u3 ⟨x, ex⟩ ⟨y, ey⟩
  · by_cases h4 : 4 ≤ a.toInt
    · have hb : bt2 (4, 2147483647) a.toInt := ⟨h4, (in_f32 a).2⟩
      obtain ⟨r, h1, t1, t2, t3, t4, o, o1, ρ', o2, o3, o4, o5, o6⟩ := ft_backXp [a.toInt] [cR 0, cI a] h hi.1 (bcons hb bnil) (fun q hq => by cases hq) ⟨⟨0, List.mem_singleton.mpr rfl, rfl⟩, vxs rfl, trivial⟩ (fun q hq => by cases hq) hi.2.1
      obtain ⟨r', h2, u1, u2, u3, u4, p, p1, σ, p2, p3, p4, p5, p6⟩ := ft_backMp [a.toInt] [cR 170, cI a] h1 t2 (bcons hb bnil) (fun q hq => by cases hq) ⟨⟨170, List.mem_singleton.mpr rfl, rfl⟩, vxs rfl, trivial⟩ (fun q hq => by cases hq) t4
      have e := List.mem_singleton.mp o1
      have e' := List.mem_singleton.mp p1
      subst e e'
      obtain ⟨x, ex, _⟩ := ret_c o6
      obtain ⟨y, ey, _⟩ := ret_c p6
      exact fin r r' h1 h2 _ _ (by decide) (by decide) t1 t2 u1 u2 u4 t3 u3 ⟨x, ex⟩ ⟨y, ey⟩
    · have : a.toInt = 0 ∨ a.toInt = 1 ∨ a.toInt = 2 ∨ a.toInt = 3 := by omega
      rcases this with e | e | e | e
      · exact back_pair0 hi e
      · exact back_pair1 hi e
      · exact back_pair2 hi e
      · exact back_pair3 hi e
