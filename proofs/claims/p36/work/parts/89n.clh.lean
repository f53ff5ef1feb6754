/-! GHOSTS, 14: the clauses of a LAW (printed by wip/hand/gen89n.py) -/
abbrev kUc : aW := [(170, 14), (170, 15), (170, 16), (170, 18), (170, 19), (170, 20), (170, 22), (172, 1000), (173, 1000), (174, 1000), (175, 1000), (180, 1000)]
theorem G_kn2 {JF : Nat → List cC → Prop} {mu : List cC → Nat} {WA : aW} {d : Nat} {M : eM} {outs : List ghO} {Ls : List ghL} {pc : Nat} {als : List (Nat × aV)} {ast : List aV} {F : List (Nat × Nat × aV)} {B : List eP} {i p r i2 r2 j : Nat} {q : eP} (hm : (((pc, als, ast, (170, j, aI (xs B.length)) :: F, B ++ [q], []), i2, p, r2) : ghL) ∈ Ls) (hr : r2 < r) (hc : ∀ h : List cC, HG TT [] h → JF i h → JF i2 h ∧ ∃ x : Int32, fI h 170 j = some x ∧ bt2 q x.toInt) : OblG JF mu WA d M outs Ls ((pc, als, ast, F, B, []), i, p, r) := by
  intro S hS hJ hK
  obtain ⟨e1, hG, ρ, hB, hR, hL, hSt, hF⟩ := hS
  dsimp only at e1 hB hR hL hSt hF hK
  obtain ⟨k1, x, k2, k3⟩ := hc _ hG hK
  obtain ⟨ci, vs, k4, k5⟩ := fI_inv k2
  have hp : ρ <+: ρ ++ [x.toInt] := List.prefix_append _ _
  refine ⟨S, Go.rf, Fr.rf, hJ, Or.inl ⟨_, hm, ⟨e1, hG, ρ ++ [x.toInt], okB_app hB (bcons k3 bnil), ⟨List.nil_prefix, fun q hq => by cases hq⟩, okL_mono hp hL, okS_mono hp hSt, fun q hq => ?_⟩, k1, Prod.Lex.right _ (Prod.Lex.right _ hr)⟩⟩
  rcases List.mem_cons.mp hq with e | hq
  · subst e
    refine ⟨ci, vs, cI x, k4, k5, vxs ?_⟩
    rw [← hB.1, List.getElem?_append_right (Nat.le_refl _), Nat.sub_self]
    rfl
  · exact okF_mono hp hF q hq
def KC (t l0 : Nat) (h : List cC) : Prop := ∃ cl ln : Nat, l0 ≤ ln ∧ cl ≤ ln ∧ ln ≤ 12 ∧ KCx t cl ln h
def hJ_ (t l0 : Nat) : Nat → List cC → Prop
  | 0 => KC t l0
  | 1 => fun h => ∃ cl ln : Nat, l0 + 1 ≤ ln ∧ cl + 1 ≤ ln ∧ ln ≤ 12 ∧ KCx t cl ln h
  | 2 => KC t (l0 + 1)
  | _ => fun _ => True
theorem KC_fr {W : aW} {t l0 : Nat} {h h2 : List cC} (hf : Fr PT9 W h h2) (hw : inW W 170 17 = false ∧ inW W 170 18 = false ∧ inW W 170 20 = false ∧ inW W 180 1000 = false ∧ inW W 172 1000 = false ∧ inW W 173 1000 = false ∧ inW W 174 1000 = false ∧ inW W 175 1000 = false) (hk : KC t l0 h) : KC t l0 h2 := by
  obtain ⟨cl, ln, a1, a2, a3, a4⟩ := hk
  exact ⟨cl, ln, a1, a2, a3, KCx_keep hf hw a4⟩
theorem hJ_fr {t l0 : Nat} (h h2 : List cC) (i : Nat) (hG : HG TT [] h) (hf : Fr PT9 kSg h h2) (hk : hJ_ t l0 i h) : hJ_ t l0 i h2 := match i, hk with
  | 0, hk => KC_fr hf ⟨rfl, rfl, rfl, rfl, rfl, rfl, rfl, rfl⟩ hk
  | 1, ⟨cl, ln, a1, a2, a3, a4⟩ => ⟨cl, ln, a1, a2, a3, KCx_keep hf ⟨rfl, rfl, rfl, rfl, rfl, rfl, rfl, rfl⟩ a4⟩
  | 2, hk => KC_fr hf ⟨rfl, rfl, rfl, rfl, rfl, rfl, rfl, rfl⟩ hk
  | _ + 3, _ => trivial
abbrev chQ : aQ := mkQ P39 kSg [zn156, zn157] 3000 2
theorem chQ_ok : Qok P9 kSg 26 chQ := mkQ_ok J9_ok (d := 24) (cs_cons (Con_le (by decide) zt156) (cs_cons (Con_le (by decide) zt157) (cs_nil))) 3000 2
abbrev ch0 : ghL := ((0, [(0, .inl [170])], [], [], [], []), 0, 9, 9)
abbrev ch0a : ghL := ((0, [(0, .inl [170])], [], [(170, 17, .inr (.inl (.inr (0, 1, 0))))], [(0, 5)], []), 0, 9, 8)
abbrev ch0b : ghL := ((0, [(0, .inl [170])], [], [(170, 20, .inr (.inl (.inr (0, 1, 1)))), (170, 17, .inr (.inl (.inr (0, 1, 0))))], [(0, 5), (0, 12)], []), 0, 9, 7)
abbrev chX : ghL := ((139, [(0, .inl [170]), (2, .inr (.inl (.inl 0)))], [], [(170, 20, .inr (.inl (.inr (0, 1, 0))))], [(0, 11)], []), 0, 8, 0)
abbrev chY : ghL := ((149, [(0, .inl [170]), (2, .inr (.inl (.inl 0)))], [], [], [], []), 1, 7, 0)
abbrev chZ : ghL := ((169, [(0, .inl [170])], [.inr (.inl (.inr (0, 1, 0))), .inl [170]], [], [(0, 1)], []), 1, 6, 0)
abbrev chZ1 : ghL := ((172, [(0, .inl [170])], [.inr (.inl (.inl 1))], [], [], []), 2, 5, 0)
abbrev chZ0 : ghL := ((172, [(0, .inl [170])], [.inr (.inl (.inl 0))], [], [], []), 99, 5, 0)
abbrev chL : List ghL := [ch0, ch0a, ch0b, chX, chY, chZ, chZ1, chZ0]
abbrev chO : List ghO := [(some 0, 0), (some 0, 99), (some 1, 2)]
set_option maxRecDepth 1000000 in
theorem ch0b_k : chkL P39 kSg chQ eM164 0 (ghSel ch0b.2.1 chL) (ghOut ch0b.2.1 chO) 3000 (ghA ch0b) = true := by decide +kernel
set_option maxRecDepth 1000000 in
theorem chY_k : chkL P39 kSg chQ eM164 0 (ghSel chY.2.1 chL) (ghOut chY.2.1 chO) 3000 (ghA chY) = true := by decide +kernel
set_option maxRecDepth 1000000 in
theorem chZ_k : chkC eM164 chL 165 [(some 1, 2, 0), (some 0, 99, 0)] chZ = true := by decide +kernel
set_option maxRecDepth 1000000 in
theorem chZ1_k : chkL P39 kSg chQ eM164 0 (ghSel chZ1.2.1 chL) (ghOut chZ1.2.1 chO) 3000 (ghA chZ1) = true := by decide +kernel
set_option maxRecDepth 1000000 in
theorem chZ0_k : chkL P39 kSg chQ eM164 0 (ghSel chZ0.2.1 chL) (ghOut chZ0.2.1 chO) 3000 (ghA chZ0) = true := by decide +kernel
theorem ch_ok {t l0 : Nat} (ht : t < 6) {h : List cC} (hG : HG TT [] h) (hJ : J9 h) (hk : KC t l0 h) : ∃ (r : Option cV) (h2 : List cC), Trm 27 164 [cR 170] h r h2 ∧ HG TT [] h2 ∧ Fr PT9 kUc h h2 ∧ J9 h2 ∧ (retV [] (ghR (some 0)) r ∨ (retV [] (ghR (some 1)) r ∧ KC t (l0 + 1) h2)) := by
  obtain ⟨r, h2, t1, t2, t3, t4, o, o1, o2, o3⟩ := G_of (JF := hJ_ t l0) (mu := fun _ => 0) (WA := kUc) (d := 26) (mi := 164) (N := eM164) rfl (outs := chO) (Ls := chL.tail) (i := 0) (p := 9) (r := 9) rfl (gh_cons (G_kn2 (i2 := 0) (r2 := 8) (j := 17) (q := (0, 5)) (List.mem_of_getElem? (i := 1) rfl) (by decide) (fun h hG hK => by
    refine ⟨hK, ?_⟩
    obtain ⟨cl, ln, a1, a2, a3, md, b, o, f, g, gc, cc, ⟨x, x1, x2⟩, _⟩ := hK
    exact ⟨x, x1, by show (0 : Int) ≤ _; omega, by show _ ≤ (5 : Int); omega⟩)) (gh_cons (G_kn2 (i2 := 0) (r2 := 7) (j := 20) (q := (0, 12)) (List.mem_of_getElem? (i := 2) rfl) (by decide) (fun h hG hK => by
    refine ⟨hK, ?_⟩
    obtain ⟨cl, ln, a1, a2, a3, md, b, o, f, g, gc, cc, _, _, ⟨x, x1, x2⟩, _⟩ := hK
    exact ⟨x, x1, by show (0 : Int) ≤ _; omega, by show _ ≤ (12 : Int); omega⟩)) (gh_cons (G_seg (fun h h2 => hJ_fr h h2 _) (fun _ _ _ _ => rfl) rfl chQ_ok ch0b_k) (gh_cons (fun S hS hJ hK => by
    obtain ⟨Spc, Sls, Sst, h⟩ := S
    obtain ⟨e1, hG, ρ, hB, hR, hL, hSt, hF⟩ := hS
    dsimp only at e1 hG hB hR hL hSt hF hJ hK
    have e2 : Sst = [] := by
      cases Sst with
      | nil => rfl
      | cons _ _ => exact hSt.elim
    have c0 := vR hL (j := 0) (k := 170) (List.mem_of_getElem? (i := 0) rfl)
    subst e1 e2
    obtain ⟨vs, m1, m3, m4, m5, m6, m7⟩ := mo_at hG
    have hcl : classes[12]? = some classes[12] := rfl
    obtain ⟨cl, ln, a1, a2, a3, md, b, o, f, g, gc, cc, k1, k2, k3, k4, k5, k6, k7, k8, k9, k10, k11, k12, k13⟩ := hK
    obtain ⟨x, x1, x2⟩ := fv_at m1 k3
    obtain ⟨ci, us, v, u1, u2, w, u3, u4⟩ := hF _ (List.mem_singleton.mpr rfl)
    have hw : w = x := by
      have u1 : h[170]? = some (.inl (ci, us)) := u1
      rw [m1] at u1
      cases u1
      have u2 : vs[20]? = some v := u2
      rw [x1] at u2
      cases u2
      cases u3
      rfl
    subst hw
    have b2 := xb_ok hB u4
    have b3 : w.toInt ≤ 0 + 1 * 11 := b2.2
    have hx1 : (w + Int32.ofInt 1).toInt = ((ln + 1 : Nat) : Int) := by
      rw [i32_add (by rw [one_i]; omega) (by rw [one_i]; omega), one_i]
      omega
    have l20 : 20 < vs.length := (List.getElem?_eq_some_iff.mp x1).1
    have v20 := fv_eq m1 l20 (w + Int32.ofInt 1)
    rw [hx1] at v20
    have g1 : HG TT [] (h.set 170 (.inl (12, vs.set 20 (cI (w + Int32.ofInt 1))))) := HG_mo hG m1 (j := 20) (b := (0, 32)) rfl ⟨by show (0 : Int) ≤ _; omega, by show _ ≤ (32 : Int); omega⟩
    refine ⟨(149, Sls, [], _), Go.step (o_aload_n (i := 0) rfl c0) (Go.step (o_step rfl rfl) (Go.step (o_get rfl rfl rfl m1 x1) (Go.step (o_step rfl rfl) (Go.step (o_step rfl rfl) (Go.step (o_put rfl rfl rfl m1 x1 hcl rfl rfl) Go.rf))))), Fr_mo Fr.rf m1 rfl, J9_mo hJ, Or.inl ⟨chY, List.mem_of_getElem? (i := 4) rfl, ⟨rfl, g1, [], bnil, ⟨List.nil_prefix, fun q hq => by cases hq⟩, (fun q hq => ?_), trivial, (fun q hq => by cases hq)⟩, ⟨cl, ln + 1, by omega, by omega, by omega, md, b, o, f, g, gc, cc, fv_ne m1 (by decide) k1, fv_ne m1 (by decide) k2, v20, k4, k5, rw_ne (by decide) k6, rw_ne (by decide) k7, rw_ne (by decide) k8, rw_ne (by decide) k9, rw_ne (by decide) k10, k11, k12, k13⟩, Prod.Lex.left _ _ (by decide)⟩⟩
    rcases List.mem_cons.mp hq with e | hq
    · subst e
      exact ⟨cR 170, c0, 170, List.mem_singleton.mpr rfl, rfl⟩
    · have e := List.mem_singleton.mp hq
      subst e
      obtain ⟨v9, c9, x9, u9, u8⟩ := hL (2, .inr (.inl (.inl 0))) (List.mem_of_getElem? (i := 1) rfl)
      exact ⟨v9, c9, x9, u9, u8⟩) (gh_cons (G_seg (fun h h2 => hJ_fr h h2 _) (fun _ _ _ _ => rfl) rfl chQ_ok chY_k) (gh_cons (G_call (N := eM165) rfl chZ_k (fun h ρ vs hG hJ hK hB hF hA => by
    obtain ⟨a, e1, e2⟩ := arg2 hA
    subst e1
    have b2 := xb_ok hB e2
    have b1 : 0 + 1 * 0 ≤ a.toInt := b2.1
    have b3 : a.toInt ≤ 0 + 1 * 1 := b2.2
    obtain ⟨cl, ln, a1, a2, a3, a4⟩ := hK
    obtain ⟨r, h2, t1, t2, t3, t4, t5⟩ := co_ok ht (by omega) (so := a) ⟨by omega, by omega⟩ hG hJ a4
    refine ⟨r, h2, Trm_le (by decide) t1, t2, Fr.tr (W2 := kVc) rfl Fr.rf t3, t4, ?_⟩
    rcases t5 with t5 | ⟨t5, t6⟩
    · exact ⟨(some 0, 99, 0), List.mem_of_getElem? (i := 1) rfl, t5, trivial, (fun z => by cases z), (fun z => by cases z)⟩
    · exact ⟨(some 1, 2, 0), List.mem_of_getElem? (i := 0) rfl, t5, ⟨cl + 1, ln, a1, a2, a3, t6⟩, (fun z => by cases z), (fun z => by cases z)⟩)) (gh_cons (G_seg (fun h h2 => hJ_fr h h2 _) (fun _ _ _ _ => rfl) rfl chQ_ok chZ1_k) (gh_cons (G_seg (fun h h2 => hJ_fr h h2 _) (fun _ _ _ _ => rfl) rfl chQ_ok chZ0_k) (gh_nil))))))))) hG hJ hk
  refine ⟨r, h2, t1, t2, t3, t4, ?_⟩
  rcases List.mem_cons.mp o1 with e1 | o1
  · subst e1
    exact Or.inl o2
  · rcases List.mem_cons.mp o1 with e1 | o1
    · subst e1
      exact Or.inl o2
    · have e1 := List.mem_singleton.mp o1
      subst e1
      exact Or.inr ⟨o2, o3⟩
