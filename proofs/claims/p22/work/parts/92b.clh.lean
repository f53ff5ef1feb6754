/-! A TOWN'S TALKS, 2: clauseHere, readsAll -/
abbrev kC6 : aW := [(170, 8), (170, 9), (170, 14), (170, 15), (170, 16), (170, 20), (176, 1000), (177, 1000), (178, 1000)]
abbrev kC7 : aW := [(170, 7), (170, 8), (170, 9), (170, 14), (170, 15), (170, 16), (170, 20), (176, 1000), (177, 1000), (178, 1000), (179, 1000)]
abbrev c6A : aL := ((0, [(0, .inl [170])], [], [(170, 20, .inr (.inl (.inr (0, 1, 0)))), (170, 17, .inr (.inl (.inl 6)))], [(0, 32)], []), (.inl 1, .inl 0, .inl 0))
abbrev c6T : aL := ((228, [(0, .inl [170])], [.inr (.inl (.inr (0, 1, 0))), .inl [170]], [], [(0, 400)], []), (.inl 0, .inl 0, .inl 0))
abbrev c6O : List aU := [(some (.inr (.inl (.inl 0))), [], [], []), (some (.inr (.inl (.inl 1))), [], [], [])]
abbrev c6Q : aQ := mkQ P39 kC6 [zn156, zn157, zn214, zn215, zn216] 3000 1
theorem c6Q_ok : Qok P9 kC6 6 c6Q := mkQ_ok J9_ok (d := 5) (cs_cons (Con_le (by decide) zt156) (cs_cons (Con_le (by decide) zt157) (cs_cons (Con_le (by decide) zt214) (cs_cons (Con_le (by decide) zt215) (cs_cons (Con_le (by decide) zt216) cs_nil))))) 3000 1
set_option maxRecDepth 1000000 in
theorem c6_k : chkL P39 kC6 c6Q eM164 0 [c6T] c6O 3000 c6A = true := by decide +kernel
theorem fv_F {h : List cC} {j : Nat} {z : Int} {ρ : List Int} (h1 : fv h j z) {i : Nat} (hz : ρ[i]? = some z) : ∃ (ci : Nat) (vs : List cV) (v : cV), h[170]? = some (.inl (ci, vs)) ∧ vs[j]? = some v ∧ vV ρ (.inr (.inl (.inr (0, 1, i)))) v := by
  obtain ⟨x, x1, x2⟩ := h1
  obtain ⟨ci, vs, a1, a2⟩ := fI_inv x1
  subst x2
  exact ⟨ci, vs, cI x, a1, a2, vxs hz⟩
theorem fv_C {h : List cC} {j : Nat} {z : Int} {ρ : List Int} (h1 : fv h j z) : ∃ (ci : Nat) (vs : List cV) (v : cV), h[170]? = some (.inl (ci, vs)) ∧ vs[j]? = some v ∧ vV ρ (.inr (.inl (.inl z))) v := by
  obtain ⟨x, x1, x2⟩ := h1
  obtain ⟨ci, vs, a1, a2⟩ := fI_inv x1
  exact ⟨ci, vs, cI x, a1, a2, x, rfl, x2⟩
theorem c6_run {h : List cC} (hG : HG TT [] h) (hJ : J9 h) (h17 : fv h 17 6) {ln : Int} (hl : fv h 20 ln) (hl0 : 0 ≤ ln) (hl2 : ln ≤ 32) (hk : TRs h) : ∃ (r : Option cV) (h2 : List cC), Trm 7 164 [cR 170] h r h2 ∧ TRs h2 := by
  obtain ⟨S2, g1, g2, g3⟩ := chkL_ok (P := P9) J9_ok c6Q_ok c6_k [] rfl h [ln] (0, [(0, cR 170)], [], h) rfl hG (bcons ⟨hl0, hl2⟩ bnil) ⟨List.nil_prefix, fun q hq => by cases hq⟩ (fun q hq => by
    have e := List.mem_singleton.mp hq
    subst e
    exact ⟨cR 170, rfl, 170, List.mem_singleton.mpr rfl, rfl⟩) trivial (fun q hq => by
    rcases List.mem_cons.mp hq with e | hq
    · subst e
      exact fv_F hl rfl
    · have e := List.mem_singleton.mp hq
      subst e
      exact fv_C h17) ⟨Fr.rf, hJ⟩
  have F2 : Fr PT9 kC6 h S2.2.2.2 := g2.1
  have J2 : J9 S2.2.2.2 := g2.2
  have K2 := TRs_keep F2 rfl rfl hk
  rcases g3 with ⟨l2, q1, ρ2, q2, q3, q4, q5, q6, q7, q8, q9⟩ | ⟨r, q1, q2, _⟩
  · have e := List.mem_singleton.mp q1
    subst e
    obtain ⟨Spc, Sls, Sst, h1⟩ := S2
    dsimp only at g1 q2 q3 q6 q7 J2 K2 F2
    match Sst, q7 with
    | [v, w], ⟨⟨a, a1, a2⟩, ⟨k, k1, k2⟩, _⟩ =>
      subst q2
      subst a1
      have k3 := List.mem_singleton.mp k1
      subst k3
      subst k2
      obtain ⟨r, h2, t1, t2, t3, t4, t5⟩ := it_ok q3 J2 K2 a
      obtain ⟨vs, m1, _⟩ := mo_at q3
      have s228 : cOne (calF (Trm 6)) eM164 none (228, Sls, [cI a, cR 170], h1) = some (231, Sls, [cI r], h2) := gh_inv (d := 6) (mi := 208) (N := eM208) (pc := 228) (ls := Sls) (st := [cI a, cR 170]) (r := some (cI r)) rfl rfl rfl rfl rfl (by show recC h1 12 [cR 170, cI a] = true; unfold recC; dsimp only; rw [m1]; rfl) (Trm_le (by decide) t1)
      exact ⟨some (cI r), h2, Trm_succ.mpr ⟨eM164, (231, Sls, [cI r], h2), rfl, Nat.le_of_ble_eq_true rfl, g1.trans (Go.step s228 Go.rf), by rcases t5 with e | e <;> (subst e; rfl)⟩, t4⟩
  · exact ⟨r, S2.2.2.2, Trm_succ.mpr ⟨eM164, S2, rfl, Nat.le_of_ble_eq_true rfl, g1, q1⟩, K2⟩
theorem c6_ok {h : List cC} (hG : HG TT [] h) (hJ : J9 h) (h17 : fv h 17 6) {ln : Nat} (hl : fv h 20 ln) (hl2 : ln ≤ 32) (hk : TRs h) : ∃ (r : Int32) (h2 : List cC), Trm 7 164 [cR 170] h (some (cI r)) h2 ∧ HG TT [] h2 ∧ Fr PT9 kC7 h h2 ∧ J9 h2 ∧ TRs h2 ∧ (r = 0 ∨ (r = 1 ∧ ln + 1 ≤ 32 ∧ fv h2 20 ((ln + 1 : Nat) : Int))) := by
  obtain ⟨r, h2, t1, t2, t3, t4, o, o1, ρ', o2, o3, o4, o5, o6⟩ := zt218 [(ln : Int)] [cR 170] h hG (bcons ⟨by show (0 : Int) ≤ _; omega, by show _ ≤ (32 : Int); omega⟩ bnil) (fun q hq => by cases hq) ⟨⟨170, List.mem_singleton.mpr rfl, rfl⟩, trivial⟩ (fun q hq => by
    rcases List.mem_cons.mp hq with e | hq
    · subst e
      exact fv_F hl rfl
    · have e := List.mem_singleton.mp hq
      subst e
      exact fv_C h17) hJ
  obtain ⟨r', h2', u1, u2⟩ := c6_run hG hJ h17 hl (by omega) (by omega) hk
  have e := (Trm_det u1 t1).2
  subst e
  rcases List.mem_cons.mp o1 with e | o1
  · subst e
    obtain ⟨z, z1, z2⟩ := ret_c o6
    subst z1
    exact ⟨z, h2', t1, t2, t3, t4, u2, Or.inl ((i32_of z2).trans rfl)⟩
  · have e := List.mem_singleton.mp o1
    subst e
    obtain ⟨z, z1, z2⟩ := ret_c o6
    subst z1
    have r0 : ρ'[0]? = some (ln : Int) := at_mono o2 rfl
    have hb := okB_at o3 (i := 0) rfl r0
    have hb2 : (ln : Int) ≤ 31 := hb.2
    obtain ⟨ci, us, w, v1, v2, x, x1, y, y1, y2⟩ := o5 _ (List.mem_singleton.mpr rfl)
    subst x1
    rw [r0] at y1
    cases y1
    have v1 : h2'[170]? = some (.inl (ci, us)) := v1
    have v2 : us[20]? = some (cI x) := v2
    exact ⟨z, h2', t1, t2, t3, t4, u2, Or.inr ⟨(i32_of z2).trans rfl, by omega, x, fI_at v1 v2, by omega⟩⟩
abbrev kR6 : aW := [(170, 1), (170, 7), (170, 8), (170, 9), (170, 14), (170, 15), (170, 16), (170, 18), (170, 20), (173, 1000), (176, 1000), (177, 1000), (178, 1000), (179, 1000)]
abbrev kR0 : aW := [(170, 14), (170, 15), (170, 18), (170, 20), (173, 1000)]
abbrev r6A : aL := ((0, [(0, .inl [170])], [], [(170, 17, .inr (.inl (.inl 6)))], [], []), (.inl 1, .inl 0, .inl 0))
abbrev r6T : aL := ((31, [(0, .inl [170])], [.inl [170]], [(170, 20, .inr (.inl (.inl 0)))], [], []), (.inl 0, .inl 0, .inl 0))
abbrev r6B : aL := ((35, [(0, .inl [170]), (1, .inr (.inl (.inl 1)))], [], [], [], []), (.inl 1, .inl 0, .inl 0))
abbrev r6U : aL := ((59, [(0, .inl [170])], [.inl [170]], [], [], []), (.inl 0, .inl 0, .inl 0))
abbrev r6Z : aL := ((35, [(0, .inl [170]), (1, .inr (.inl (.inl 0)))], [], [], [], []), (.inl 1, .inl 0, .inl 0))
abbrev r6Q : aQ := mkQ P39 kR0 [] 3000 0
theorem r6Q_ok : Qok P9 kR0 28 r6Q := Qok_le (by decide) (mkQ_ok J9_ok (d := 0) cs_nil 3000 0)
set_option maxRecDepth 1000000 in
theorem r6A_k : chkL P39 kR0 r6Q eM228 0 [r6T] [] 3000 r6A = true := by decide +kernel
set_option maxRecDepth 1000000 in
theorem r6B_k : chkL P39 kS1 raQ eM228 0 [r6U] c6O 3000 r6B = true := by decide +kernel
set_option maxRecDepth 1000000 in
theorem r6Z_k : chkL P39 kS1 raQ eM228 0 [] c6O 3000 r6Z = true := by decide +kernel
theorem r6_ret {ρ : List Int} {o : aU} (ho : o ∈ c6O) {r : Option cV} (h : retV ρ o.1 r) : ∃ x : Int32, r = some (cI x) := by
  rcases List.mem_cons.mp ho with e | ho
  · subst e
    obtain ⟨x, x1, _⟩ := ret_c h
    exact ⟨x, x1⟩
  · have e := List.mem_singleton.mp ho
    subst e
    obtain ⟨x, x1, _⟩ := ret_c h
    exact ⟨x, x1⟩
theorem chkL_z6 {ls : List (Nat × cV)} {h : List cC} (c0 : clk ls 0 = some (cR 170)) (c1 : clk ls 1 = some (cI 0)) (hG : HG TT [] h) (hJ : J9 h) (hk : TRs h) : ∃ (S2 : cS) (r : Int32), Go (calF (Trm 28)) eM228 none (35, ls, [], h) S2 ∧ cEnd eM228 S2 = some (some (cI r), S2.2.2.2) ∧ HG TT [] S2.2.2.2 ∧ Fr PT9 kR6 h S2.2.2.2 ∧ J9 S2.2.2.2 ∧ TRs S2.2.2.2 := by
  obtain ⟨S2, g1, g2, g3⟩ := chkL_ok (P := P9) J9_ok raQ_ok r6Z_k [] rfl h [] (35, ls, [], h) rfl hG bnil ⟨List.nil_prefix, fun q hq => by cases hq⟩ (fun q hq => by
    rcases List.mem_cons.mp hq with e | hq
    · subst e
      exact ⟨cR 170, c0, 170, List.mem_singleton.mpr rfl, rfl⟩
    · have e := List.mem_singleton.mp hq
      subst e
      exact ⟨cI 0, c1, 0, rfl, rfl⟩) trivial (fun q hq => by cases hq) ⟨Fr.rf, hJ⟩
  have F2 : Fr PT9 kS1 h S2.2.2.2 := g2.1
  rcases g3 with ⟨l2, q1, _⟩ | ⟨r, q1, q2, o, o1, ρ', o2, o3, o4, o5⟩
  · cases q1
  · obtain ⟨x, x1⟩ := r6_ret o1 o5
    subst x1
    exact ⟨S2, x, g1, q1, q2, Fr.tr (W2 := kS1) rfl Fr.rf F2, g2.2, TRs_keep F2 rfl rfl hk⟩
theorem r6_loop : ∀ (n ln : Nat) (ls : List (Nat × cV)) (h : List cC) (g : Int32), ln + n = 32 → clk ls 0 = some (cR 170) → clk ls 1 = some (cI g) → (g = 0 ∨ g = 1 ∧ fv h 20 ln) → HG TT [] h → J9 h → fv h 17 6 → TRs h → ∃ (S2 : cS) (r : Int32), Go (calF (Trm 28)) eM228 none (35, ls, [], h) S2 ∧ cEnd eM228 S2 = some (some (cI r), S2.2.2.2) ∧ HG TT [] S2.2.2.2 ∧ Fr PT9 kR6 h S2.2.2.2 ∧ J9 S2.2.2.2 ∧ TRs S2.2.2.2
  | n, ln, ls, h, g, hn, c0, c1, hg, hG, hJ, h17, hk => by
    rcases hg with hg | ⟨hg, hl⟩
    · subst hg
      exact chkL_z6 c0 c1 hG hJ hk
    · subst hg
      obtain ⟨S2, g1, g2, g3⟩ := chkL_ok (P := P9) J9_ok raQ_ok r6B_k [] rfl h [] (35, ls, [], h) rfl hG bnil ⟨List.nil_prefix, fun q hq => by cases hq⟩ (fun q hq => by
        rcases List.mem_cons.mp hq with e | hq
        · subst e
          exact ⟨cR 170, c0, 170, List.mem_singleton.mpr rfl, rfl⟩
        · have e := List.mem_singleton.mp hq
          subst e
          exact ⟨cI 1, c1, 1, rfl, rfl⟩) trivial (fun q hq => by cases hq) ⟨Fr.rf, hJ⟩
      have F2 : Fr PT9 kS1 h S2.2.2.2 := g2.1
      have J2 : J9 S2.2.2.2 := g2.2
      rcases g3 with ⟨l2, q1, ρ2, q2, q3, q4, q5, q6, q7, q8, q9⟩ | ⟨r, q1, q2, o, o1, ρ', o2, o3, o4, o5⟩
      · have e := List.mem_singleton.mp q1
        subst e
        obtain ⟨Spc, Sls, Sst, h1⟩ := S2
        dsimp only at g1 q2 q3 q6 q7 J2 F2
        match Sst, q7 with
        | [w], ⟨⟨k, k1, k2⟩, _⟩ =>
          subst q2
          have k3 := List.mem_singleton.mp k1
          subst k3
          subst k2
          have d0 := vR q6 (j := 0) (k := 170) (List.mem_of_getElem? (i := 0) rfl)
          obtain ⟨r, h2, t1, t2, t3, t4, t5, t6⟩ := c6_ok q3 J2 (fv_keep F2 rfl h17) (fv_keep F2 rfl hl) (by omega) (TRs_keep F2 rfl rfl hk)
          obtain ⟨vs, m1, _⟩ := mo_at q3
          have s59 : cOne (calF (Trm 28)) eM228 none (59, Sls, [cR 170], h1) = some (62, Sls, [cI r], h2) := gh_inv (d := 28) (mi := 164) (N := eM164) (pc := 59) (ls := Sls) (st := [cR 170]) (r := some (cI r)) rfl rfl rfl rfl rfl (by show recC h1 12 [cR 170] = true; unfold recC; dsimp only; rw [m1]; rfl) (Trm_le (by decide) t1)
          have s62 : cOne (calF (Trm 28)) eM228 none (62, Sls, [cI r], h2) = some (63, (1, cI r) :: Sls.filter (ckI 1), [], h2) := o_step (ins := .istore_n 1) (len := 1) rfl (by
            show kStoreI (m_L eM228) 1 1 1 62 Sls [cI r] h2 = _
            unfold kStoreI
            exact cNx_t (by rfl))
          have s63 : cOne (calF (Trm 28)) eM228 none (63, (1, cI r) :: Sls.filter (ckI 1), [], h2) = some (35, (1, cI r) :: Sls.filter (ckI 1), [], h2) := o_step rfl rfl
          have F3 : Fr PT9 kR6 h h2 := Fr.tr (W2 := kC7) rfl (Fr.tr (W2 := kS1) rfl Fr.rf F2) t3
          have e0 : clk ((1, cI r) :: Sls.filter (ckI 1)) 0 = some (cR 170) := clk_st rfl rfl rfl d0
          have e17 : fv h2 17 6 := fv_keep t3 rfl (fv_keep F2 rfl h17)
          match n, hn with
          | 0, hn =>
            rcases t6 with t6 | ⟨_, t7, _⟩
            · subst t6
              obtain ⟨S3, r3, z1, z2, z3, z4, z5, z6⟩ := chkL_z6 e0 clk_hd t2 t4 t5
              exact ⟨S3, r3, g1.trans (Go.step s59 (Go.step s62 (Go.step s63 z1))), z2, z3, Fr.tr (subW_rf kR6) F3 z4, z5, z6⟩
            · omega
          | n + 1, hn =>
            obtain ⟨S3, r3, z1, z2, z3, z4, z5, z6⟩ := r6_loop n (ln + 1) ((1, cI r) :: Sls.filter (ckI 1)) h2 r (by omega) e0 clk_hd (by
              rcases t6 with t6 | ⟨t6, t7, t8⟩
              · exact Or.inl t6
              · exact Or.inr ⟨t6, t8⟩) t2 t4 e17 t5
            exact ⟨S3, r3, g1.trans (Go.step s59 (Go.step s62 (Go.step s63 z1))), z2, z3, Fr.tr (subW_rf kR6) F3 z4, z5, z6⟩
      · obtain ⟨x, x1⟩ := r6_ret o1 o5
        subst x1
        exact ⟨S2, x, g1, q1, q2, Fr.tr (W2 := kS1) rfl Fr.rf F2, g2.2, TRs_keep F2 rfl rfl hk⟩
theorem r6_ok {h : List cC} (hG : HG TT [] h) (hJ : J9 h) (h17 : fv h 17 6) (hk : TRs h) : ∃ (r : Int32) (h2 : List cC), Trm 29 228 [cR 170] h (some (cI r)) h2 ∧ HG TT [] h2 ∧ Fr PT9 kR6 h h2 ∧ J9 h2 ∧ TRs h2 := by
  obtain ⟨S2, g1, g2, g3⟩ := chkL_ok (P := P9) J9_ok r6Q_ok r6A_k [] rfl h [] (0, [(0, cR 170)], [], h) rfl hG bnil ⟨List.nil_prefix, fun q hq => by cases hq⟩ (fun q hq => by
    have e := List.mem_singleton.mp hq
    subst e
    exact ⟨cR 170, rfl, 170, List.mem_singleton.mpr rfl, rfl⟩) trivial (fun q hq => by
    have e := List.mem_singleton.mp hq
    subst e
    exact fv_C h17) ⟨Fr.rf, hJ⟩
  have F2 : Fr PT9 kR0 h S2.2.2.2 := g2.1
  have J2 : J9 S2.2.2.2 := g2.2
  rcases g3 with ⟨l2, q1, ρ2, q2, q3, q4, q5, q6, q7, q8, q9⟩ | ⟨r, q1, q2, o, o1, _⟩
  · have e := List.mem_singleton.mp q1
    subst e
    obtain ⟨Spc, Sls, Sst, h1⟩ := S2
    dsimp only at g1 q2 q3 q6 q7 q8 J2 F2
    match Sst, q7 with
    | [w], ⟨⟨k, k1, k2⟩, _⟩ =>
      subst q2
      have k3 := List.mem_singleton.mp k1
      subst k3
      subst k2
      have d0 := vR q6 (j := 0) (k := 170) (List.mem_of_getElem? (i := 0) rfl)
      obtain ⟨ci, us, v, v1, v2, x, x1, x2⟩ := q8 _ (List.mem_singleton.mpr rfl)
      subst x1
      have v1 : h1[170]? = some (.inl (ci, us)) := v1
      have v2 : us[20]? = some (cI x) := v2
      have hl : fv h1 20 ((0 : Nat) : Int) := ⟨x, fI_at v1 v2, x2⟩
      have e17 : fv h1 17 6 := fv_keep F2 rfl h17
      obtain ⟨r, h2, t1, t2, t3, t4, t5, t6⟩ := c6_ok q3 J2 e17 hl (by omega) (TRs_keep F2 rfl rfl hk)
      obtain ⟨vs, m1, _⟩ := mo_at q3
      have s31 : cOne (calF (Trm 28)) eM228 none (31, Sls, [cR 170], h1) = some (34, Sls, [cI r], h2) := gh_inv (d := 28) (mi := 164) (N := eM164) (pc := 31) (ls := Sls) (st := [cR 170]) (r := some (cI r)) rfl rfl rfl rfl rfl (by show recC h1 12 [cR 170] = true; unfold recC; dsimp only; rw [m1]; rfl) (Trm_le (by decide) t1)
      have s34 : cOne (calF (Trm 28)) eM228 none (34, Sls, [cI r], h2) = some (35, (1, cI r) :: Sls.filter (ckI 1), [], h2) := o_step (ins := .istore_n 1) (len := 1) rfl (by
        show kStoreI (m_L eM228) 1 1 1 34 Sls [cI r] h2 = _
        unfold kStoreI
        exact cNx_t (by rfl))
      obtain ⟨S3, r3, z1, z2, z3, z4, z5, z6⟩ := r6_loop 31 1 ((1, cI r) :: Sls.filter (ckI 1)) h2 r (by omega) (clk_st rfl rfl rfl d0) clk_hd (by
        rcases t6 with t6 | ⟨t6, t7, t8⟩
        · exact Or.inl t6
        · exact Or.inr ⟨t6, t8⟩) t2 t4 (fv_keep t3 rfl e17) t5
      exact ⟨r3, S3.2.2.2, Trm_succ.mpr ⟨eM228, S3, rfl, Nat.le_of_ble_eq_true rfl, g1.trans (Go.step s31 (Go.step s34 z1)), z2⟩, z3, Fr.tr (subW_rf kR6) (Fr.tr (W2 := kC7) rfl (Fr.tr (W2 := kR0) rfl Fr.rf F2) t3) z4, z5, z6⟩
  · cases o1
