/-! BY HAND, 9: image and back, both calls (printed by wip/hand/gen83e.py) -/
theorem Obl_oneR {P : aP} {W : aW} {d : Nat} {M : eM} {n0 : Nat} {t A : aL} (hO : Obl P W d M n0 [] [t] A) {ρ : List Int} (hn : ρ.length = n0) {S : cS} (e1 : S.1 = A.1.1) (hG : HG P.1 [] S.2.2.2) (hB : okB ρ A.1.2.2.2.2.1) (hR : ∀ q ∈ A.1.2.2.2.2.2, okR1 ρ S.2.2.2 q) (hL : okL ρ A.1.2.1 S.2.1) (hSt : okS ρ A.1.2.2.1 S.2.2.1) (hF : okF ρ A.1.2.2.2.1 S.2.2.2) (hJ : P.2.2.2 S.2.2.2) : ∃ (S2 : cS) (ρ2 : List Int), Go (calF (Trm d)) M none S S2 ∧ Fr P.2.1 W S.2.2.2 S2.2.2.2 ∧ P.2.2.2 S2.2.2.2 ∧ S2.1 = t.1.1 ∧ HG P.1 [] S2.2.2.2 ∧ ρ <+: ρ2 ∧ okL ρ2 t.1.2.1 S2.2.1 ∧ okS ρ2 t.1.2.2.1 S2.2.2.1 ∧ ∀ q ∈ t.1.2.2.2.2.2, okR1 ρ2 S2.2.2.2 q := by
  obtain ⟨S2, g1, g2, g3⟩ := hO ρ hn S.2.2.2 ρ S e1 hG hB ⟨List.prefix_rfl, hR⟩ hL hSt hF ⟨Fr.rf, hJ⟩
  rcases g3 with ⟨l2, q1, ρ2, q2, q3, q4, q5, q6, q7, q8, q9⟩ | ⟨r, _, _, o, o1, _⟩
  · have e := List.mem_singleton.mp q1
    subst e
    exact ⟨S2, ρ2, g1, g2.1, g2.2, q2, q3, q5.1, q6, q7, q5.2⟩
  · cases o1
theorem q1f {W : aW} : Qok P9f W 1 (mkQ P39f W [] 3000 1) := mkQ_ok J9_okf (d := 0) (fun _ hc => by cases hc) 3000 1
theorem q0f {W : aW} : Qok P9f W 1 (mkQ P39f W [] 3000 0) := Qok_le (by decide) (mkQ_ok J9_okf (d := 0) (fun _ hc => by cases hc) 3000 0)
theorem vC {ρ : List Int} {als : List (Nat × aV)} {ls : List (Nat × cV)} (hL : okL ρ als ls) {j : Nat} {c : Int} (hm : (j, .inr (.inl (.inl c))) ∈ als) : ∃ x : Int32, clk ls j = some (cI x) ∧ x.toInt = c := by
  obtain ⟨v, h1, x, h2, h3⟩ := hL _ hm
  subst h2
  exact ⟨x, h1, h3⟩
theorem bit_at {h : List cC} (hG : HG TT [] h) {k : Nat} (hT : TT[k]? = some (.inr (.inl (2, 4, (0, 1), [])))) {i : Nat} (hi : i < 4) {b : Int32} (hb : rE h k i = some b) : bt2 (0, 1) b.toInt := by
  obtain ⟨f, h1, h2⟩ := HG_row hG hT
  rw [rE_at i h1] at hb
  cases hb
  exact h2 i hi
theorem okR_c {ρ : List Int} {h : List cC} {k i : Nat} (hq : okR1 ρ h (.inr (.inr (.inl (k, i, .inl 1))))) : rE h k i = some 1 := by
  obtain ⟨kd, m, f, h1, h2⟩ := hq
  have h2 : (f i).toInt = 1 := h2
  have e : f i = 1 := Int32.toInt_inj.mp (by rw [h2]; rfl)
  rw [rE_at i h1, e]
theorem c_okR {ρ : List Int} {h : List cC} {k i : Nat} {b : Int32} {c : Int} (hb : rE h k i = some b) (hc : b.toInt = c) : okR1 ρ h (.inr (.inr (.inl (k, i, .inl c)))) := by
  obtain ⟨kd, m, f, h1, h2⟩ := rE_inv hb
  exact ⟨kd, m, f, h1, by show (f i).toInt = c; rw [h2]; exact hc⟩
theorem Fr_203 {h : List cC} {g g2 : Nat → Int32} (h2 : h[203]? = some (.inr (.inl (0, 920, g)))) : Fr [] [(203, 1000)] h (h.set 203 (.inr (.inl (0, 920, g2)))) := Fr.rf.set h2 ⟨_, rfl, fun z => inW_ne rfl z, fun q hq => by cases hq⟩
theorem Fr_183 {h : List cC} {g g2 : Nat → Int32} (h2 : h[183]? = some (.inr (.inl (0, 230, g)))) : Fr [] [(183, 1000)] h (h.set 183 (.inr (.inl (0, 230, g2)))) := Fr.rf.set h2 ⟨_, rfl, fun z => inW_ne rfl z, fun q hq => by cases hq⟩
theorem J9_set {h : List cC} (hJ : J9 h) {k : Nat} {c : cC} (hk : k ∉ IR9) : J9 (h.set k c) := J9_ok h _ (fun j hj => List.getElem?_set_ne (fun e => hk (by rw [e]; exact hj))) hJ
theorem imX0 {h : List cC} (hi : INV h) {a : Int32} (ha : a.toInt = 0) : ∃ (r : Int32) (h1 : List cC), Trm 4 113 [cR 0, cI a] h (some (cI r)) h1 ∧ HG TT [] h1 ∧ J9 h1 ∧ Fr [] fn_imageX0.2.2.2.2.2.1 h h1 ∧ (∃ w : Int32, fI h 12 4 = some w ∧ fI h1 26 4 = some w) ∧ rE h1 78 0 = some 1 ∧ ∀ k : Nat, k < 4 → k ≠ 0 → ∀ b : Int32, rE h 78 k = some b → rE h1 78 k = some b := by
  obtain ⟨w, w1, w2⟩ := hi.2.2.1
  obtain ⟨w', x1, x2, x3⟩ := HG_f hi.1 (k := 12) (j := 4) (b := (-2147483648, 2147483647)) rfl rfl
  rw [w1] at x1
  cases x1
  dsimp only at x2 x3
  obtain ⟨ci, vs, f1, f2⟩ := fI_inv w1
  obtain ⟨b0, d0, _, _⟩ := hi.2.2.2 0 (by decide)
  obtain ⟨b1, d1, _, _⟩ := hi.2.2.2 1 (by decide)
  obtain ⟨b2, d2, _, _⟩ := hi.2.2.2 2 (by decide)
  obtain ⟨b3, d3, _, _⟩ := hi.2.2.2 3 (by decide)
  obtain ⟨r, h1, t1, t2, t3, t4, o, o1, ρ', o2, o3, o4, o5, o6⟩ := ft_imageX0 [w.toInt, b0.toInt, b1.toInt, b2.toInt, b3.toInt] [cR 0, cI a] h hi.1 (bcons ⟨x2, x3⟩ (bcons (bit_at hi.1 rfl (by decide) d0) (bcons (bit_at hi.1 rfl (by decide) d1) (bcons (bit_at hi.1 rfl (by decide) d2) (bcons (bit_at hi.1 rfl (by decide) d3) bnil))))) (fun q hq => by
    simp only [List.mem_cons, List.not_mem_nil, or_false] at hq
    rcases hq with rfl | rfl | rfl | rfl
    · exact rE_okR d0 rfl
    · exact rE_okR d1 rfl
    · exact rE_okR d2 rfl
    · exact rE_okR d3 rfl) ⟨⟨0, List.mem_singleton.mpr rfl, rfl⟩, ⟨a, rfl, ha⟩, trivial⟩ (fun q hq => by
    have e := List.mem_singleton.mp hq
    subst e
    exact ⟨ci, vs, _, f1, f2, vxs rfl⟩) hi.2.1
  have e := List.mem_singleton.mp o1
  subst e
  have r0 : ρ'[0]? = some w.toInt := at_mono o2 rfl
  have q0 : ρ'[1]? = some b0.toInt := at_mono o2 rfl
  have q1 : ρ'[2]? = some b1.toInt := at_mono o2 rfl
  have q2 : ρ'[3]? = some b2.toInt := at_mono o2 rfl
  have q3 : ρ'[4]? = some b3.toInt := at_mono o2 rfl
  cases r with
  | none => exact o6.elim
  | some v =>
    obtain ⟨x, ex, _⟩ := o6
    subst ex
    refine ⟨x, h1, t1, t2, t4, t3, ⟨w, w1, okF_fI o5 (List.mem_of_getElem? (i := 1) rfl) r0⟩, okR_c (o4 _ (List.mem_of_getElem? (i := 0) rfl)), fun k hk hne b hb => ?_⟩
    have : k = 1 ∨ k = 2 ∨ k = 3 := by omega
    rcases this with rfl | rfl | rfl
    · rw [d1] at hb
      cases hb
      exact okR_rE (o4 _ (List.mem_of_getElem? (i := 1) rfl)) q1
    · rw [d2] at hb
      cases hb
      exact okR_rE (o4 _ (List.mem_of_getElem? (i := 2) rfl)) q2
    · rw [d3] at hb
      cases hb
      exact okR_rE (o4 _ (List.mem_of_getElem? (i := 3) rfl)) q3
theorem imM0 {h : List cC} (hG : HG TT [] h) (hJ : J9 h) (h4 : ∀ k : Nat, k < 4 → ∃ b : Int32, rE h 204 k = some b) {a : Int32} (ha : a.toInt = 0) : ∃ (r : Int32) (h2 : List cC), Trm 2 188 [cR 170, cI a] h (some (cI r)) h2 ∧ HG TT [] h2 ∧ J9 h2 ∧ Fr [] [(203, 1000), (204, 1000)] h h2 ∧ rE h2 204 0 = some 1 ∧ (∀ k : Nat, k < 4 → k ≠ 0 → ∀ b : Int32, rE h 204 k = some b → rE h2 204 k = some b) ∧ (∀ v : Int32, rE h 183 6 = some v → rE h2 203 6 = some v) ∧ (NSh h → NSh h2) ∧ ∀ k : Nat, k < 4 → k ≠ 0 → ∀ v : Int32, rE h 203 (230 * k + 6) = some v → rE h2 203 (230 * k + 6) = some v := by
  obtain ⟨b0, d0⟩ := h4 0 (by decide)
  obtain ⟨b1, d1⟩ := h4 1 (by decide)
  obtain ⟨b2, d2⟩ := h4 2 (by decide)
  obtain ⟨b3, d3⟩ := h4 3 (by decide)
  obtain ⟨S2, ρ2, z1, z2, z3, z4, z5, z6, z7, z8, z9⟩ := Obl_oneR (chkL_ok J9_okf q1f iA0_k) (ρ := [b0.toInt, b1.toInt, b2.toInt, b3.toInt]) rfl (S := (0, [(0, cR 170), (1, cI a)], [], h)) rfl hG (bcons (bit_at hG rfl (by decide) d0) (bcons (bit_at hG rfl (by decide) d1) (bcons (bit_at hG rfl (by decide) d2) (bcons (bit_at hG rfl (by decide) d3) bnil)))) (fun q hq => by
    simp only [iA0A, List.mem_cons, List.not_mem_nil, or_false] at hq
    rcases hq with rfl | rfl | rfl | rfl
    · exact rE_okR d0 rfl
    · exact rE_okR d1 rfl
    · exact rE_okR d2 rfl
    · exact rE_okR d3 rfl) (fun q hq => by
    simp only [iA0A, List.mem_cons, List.not_mem_nil, or_false] at hq
    rcases hq with rfl | rfl
    · exact ⟨_, rfl, 170, List.mem_singleton.mpr rfl, rfl⟩
    · exact ⟨_, rfl, a, rfl, ha⟩) trivial (fun q hq => by cases hq) hJ
  obtain ⟨Spc, Sls, Sst, Sh⟩ := S2
  dsimp only [iA0T] at z1 z2 z3 z4 z5 z6 z7 z8 z9
  have e2 : Sst = [] := by
    cases Sst with
    | nil => rfl
    | cons _ _ => exact z8.elim
  subst z4 e2
  have k0 := vR z7 (j := 0) (List.mem_of_getElem? (i := 0) rfl)
  obtain ⟨a1, k1, y1⟩ := vC z7 (List.mem_of_getElem? (i := 1) rfl)
  obtain ⟨a2, k2, y2⟩ := vC z7 (List.mem_of_getElem? (i := 2) rfl)
  obtain ⟨f, g1, g2⟩ := HG_sa z5
  obtain ⟨g, g3, g4⟩ := HG_im z5
  obtain ⟨ls2, gg, w1, w2, w3, w4, w5⟩ := im_loop (call := calF (Trm 1)) (k := a1) (by omega) g2 230 a2 Sls Sh g z5 g1 g3 ⟨k0, k1, k2⟩ (by omega) (by omega)
  have hJ2 : J9 (Sh.set 203 (.inr (.inl (0, 920, gg)))) := J9_set z3 (by decide)
  obtain ⟨S3, v1, v2, v3⟩ := (chkL_ok J9_okf q0f iE_k : Obl P9f W0 1 eM188 0 iEU iET iEA) [] rfl (Sh.set 203 (.inr (.inl (0, 920, gg)))) [] (54, ls2, [], Sh.set 203 (.inr (.inl (0, 920, gg)))) rfl w2 bnil ⟨List.prefix_rfl, (fun q hq => by cases hq)⟩ (fun q hq => by
    have e := List.mem_singleton.mp hq
    subst e
    exact ⟨_, w3, 170, List.mem_singleton.mpr rfl, rfl⟩) trivial (fun q hq => by cases hq) ⟨Fr.rf, hJ2⟩
  rcases v3 with ⟨l2, q1, _⟩ | ⟨r, p1, p2, o, o1, ρ', o2, o3, o4, o5⟩
  · cases q1
  · have eo := List.mem_singleton.mp o1
    subst eo
    cases r with
    | none => exact o5.elim
    | some vv =>
      obtain ⟨x, ex, _⟩ := o5
      subst ex
      have fr : Fr [] [(203, 1000), (204, 1000)] h S3.2.2.2 := Fr_tr2 (W1 := [(203, 1000), (204, 1000)]) (W2 := W0) rfl rfl (Fr_tr2 (W1 := W204) (W2 := [(203, 1000)]) rfl rfl z2 (Fr_203 g3)) v2.1
      have fr2 : Fr [] [(203, 1000)] Sh S3.2.2.2 := Fr_tr2 (W1 := [(203, 1000)]) (W2 := W0) rfl rfl (Fr_203 g3) v2.1
      have q0 : ρ2[0]? = some b0.toInt := at_mono z6 rfl
      have q1 : ρ2[1]? = some b1.toInt := at_mono z6 rfl
      have q2 : ρ2[2]? = some b2.toInt := at_mono z6 rfl
      have q3 : ρ2[3]? = some b3.toInt := at_mono z6 rfl
      have gE : ∀ m : Nat, rE (Sh.set 203 (.inr (.inl (0, 920, gg)))) 203 m = some (gg m) := fun m => rE_at m (List.getElem?_set_self (List.getElem?_eq_some_iff.mp g3).1)
      have nsh : NSh h → NSh S3.2.2.2 := fun n => NSh_sm w2 (SM_of v2.1 rfl rfl) (NSh_im z5 g1 g3 (a := a1.toInt.toNat) (fun m hm => w4 m (by omega) hm) (fun m hm => w5 m (fun p _ hp => hm p hp)) (NSh_sm hG (SM_of z2 rfl rfl) n))
      refine ⟨x, S3.2.2.2, Trm_succ.mpr ⟨eM188, S3, rfl, (show 2 ≤ m_L eM188 by decide), z1.trans (w1.trans v1), p1⟩, p2, v2.2, fr, rE_keep fr2 rfl (okR_c (z9 _ (List.mem_of_getElem? (i := 0) rfl))), fun k hk hne b hb => ?_, fun v hv => ?_, nsh, fun k hk hne v hv => ?_⟩
      · have : k = 1 ∨ k = 2 ∨ k = 3 := by omega
        rcases this with rfl | rfl | rfl
        · rw [d1] at hb
          cases hb
          exact rE_keep fr2 rfl (okR_rE (z9 _ (List.mem_of_getElem? (i := 1) rfl)) q1)
        · rw [d2] at hb
          cases hb
          exact rE_keep fr2 rfl (okR_rE (z9 _ (List.mem_of_getElem? (i := 2) rfl)) q2)
        · rw [d3] at hb
          cases hb
          exact rE_keep fr2 rfl (okR_rE (z9 _ (List.mem_of_getElem? (i := 3) rfl)) q3)
      · have hv2 : rE Sh 183 6 = some v := rE_keep z2 rfl hv
        rw [rE_at 6 g1] at hv2
        have h6 := w4 6 (by omega) (by omega)
        have h7 := rE_keep v2.1 rfl (gE (230 * a1.toInt.toNat + 6))
        rw [h6, show 230 * a1.toInt.toNat + 6 = 6 by omega] at h7
        rw [h7]
        exact hv2
      · have hv2 : rE Sh 203 (230 * k + 6) = some v := rE_keep z2 rfl hv
        rw [rE_at _ g3] at hv2
        have h6 := w5 (230 * k + 6) (fun p p1 p2 => by omega)
        have h7 := rE_keep v2.1 rfl (gE (230 * k + 6))
        rw [h6] at h7
        rw [h7]
        exact hv2
theorem imX1 {h : List cC} (hi : INV h) {a : Int32} (ha : a.toInt = 1) : ∃ (r : Int32) (h1 : List cC), Trm 4 113 [cR 0, cI a] h (some (cI r)) h1 ∧ HG TT [] h1 ∧ J9 h1 ∧ Fr [] fn_imageX1.2.2.2.2.2.1 h h1 ∧ (∃ w : Int32, fI h 12 4 = some w ∧ fI h1 39 4 = some w) ∧ rE h1 78 1 = some 1 ∧ ∀ k : Nat, k < 4 → k ≠ 1 → ∀ b : Int32, rE h 78 k = some b → rE h1 78 k = some b := by
  obtain ⟨w, w1, w2⟩ := hi.2.2.1
  obtain ⟨w', x1, x2, x3⟩ := HG_f hi.1 (k := 12) (j := 4) (b := (-2147483648, 2147483647)) rfl rfl
  rw [w1] at x1
  cases x1
  dsimp only at x2 x3
  obtain ⟨ci, vs, f1, f2⟩ := fI_inv w1
  obtain ⟨b0, d0, _, _⟩ := hi.2.2.2 0 (by decide)
  obtain ⟨b1, d1, _, _⟩ := hi.2.2.2 1 (by decide)
  obtain ⟨b2, d2, _, _⟩ := hi.2.2.2 2 (by decide)
  obtain ⟨b3, d3, _, _⟩ := hi.2.2.2 3 (by decide)
  obtain ⟨r, h1, t1, t2, t3, t4, o, o1, ρ', o2, o3, o4, o5, o6⟩ := ft_imageX1 [w.toInt, b0.toInt, b1.toInt, b2.toInt, b3.toInt] [cR 0, cI a] h hi.1 (bcons ⟨x2, x3⟩ (bcons (bit_at hi.1 rfl (by decide) d0) (bcons (bit_at hi.1 rfl (by decide) d1) (bcons (bit_at hi.1 rfl (by decide) d2) (bcons (bit_at hi.1 rfl (by decide) d3) bnil))))) (fun q hq => by
    simp only [List.mem_cons, List.not_mem_nil, or_false] at hq
    rcases hq with rfl | rfl | rfl | rfl
    · exact rE_okR d0 rfl
    · exact rE_okR d1 rfl
    · exact rE_okR d2 rfl
    · exact rE_okR d3 rfl) ⟨⟨0, List.mem_singleton.mpr rfl, rfl⟩, ⟨a, rfl, ha⟩, trivial⟩ (fun q hq => by
    have e := List.mem_singleton.mp hq
    subst e
    exact ⟨ci, vs, _, f1, f2, vxs rfl⟩) hi.2.1
  have e := List.mem_singleton.mp o1
  subst e
  have r0 : ρ'[0]? = some w.toInt := at_mono o2 rfl
  have q0 : ρ'[1]? = some b0.toInt := at_mono o2 rfl
  have q1 : ρ'[2]? = some b1.toInt := at_mono o2 rfl
  have q2 : ρ'[3]? = some b2.toInt := at_mono o2 rfl
  have q3 : ρ'[4]? = some b3.toInt := at_mono o2 rfl
  cases r with
  | none => exact o6.elim
  | some v =>
    obtain ⟨x, ex, _⟩ := o6
    subst ex
    refine ⟨x, h1, t1, t2, t4, t3, ⟨w, w1, okF_fI o5 (List.mem_of_getElem? (i := 1) rfl) r0⟩, okR_c (o4 _ (List.mem_of_getElem? (i := 1) rfl)), fun k hk hne b hb => ?_⟩
    have : k = 0 ∨ k = 2 ∨ k = 3 := by omega
    rcases this with rfl | rfl | rfl
    · rw [d0] at hb
      cases hb
      exact okR_rE (o4 _ (List.mem_of_getElem? (i := 0) rfl)) q0
    · rw [d2] at hb
      cases hb
      exact okR_rE (o4 _ (List.mem_of_getElem? (i := 2) rfl)) q2
    · rw [d3] at hb
      cases hb
      exact okR_rE (o4 _ (List.mem_of_getElem? (i := 3) rfl)) q3
theorem imM1 {h : List cC} (hG : HG TT [] h) (hJ : J9 h) (h4 : ∀ k : Nat, k < 4 → ∃ b : Int32, rE h 204 k = some b) {a : Int32} (ha : a.toInt = 1) : ∃ (r : Int32) (h2 : List cC), Trm 2 188 [cR 170, cI a] h (some (cI r)) h2 ∧ HG TT [] h2 ∧ J9 h2 ∧ Fr [] [(203, 1000), (204, 1000)] h h2 ∧ rE h2 204 1 = some 1 ∧ (∀ k : Nat, k < 4 → k ≠ 1 → ∀ b : Int32, rE h 204 k = some b → rE h2 204 k = some b) ∧ (∀ v : Int32, rE h 183 6 = some v → rE h2 203 236 = some v) ∧ (NSh h → NSh h2) ∧ ∀ k : Nat, k < 4 → k ≠ 1 → ∀ v : Int32, rE h 203 (230 * k + 6) = some v → rE h2 203 (230 * k + 6) = some v := by
  obtain ⟨b0, d0⟩ := h4 0 (by decide)
  obtain ⟨b1, d1⟩ := h4 1 (by decide)
  obtain ⟨b2, d2⟩ := h4 2 (by decide)
  obtain ⟨b3, d3⟩ := h4 3 (by decide)
  obtain ⟨S2, ρ2, z1, z2, z3, z4, z5, z6, z7, z8, z9⟩ := Obl_oneR (chkL_ok J9_okf q1f iA1_k) (ρ := [b0.toInt, b1.toInt, b2.toInt, b3.toInt]) rfl (S := (0, [(0, cR 170), (1, cI a)], [], h)) rfl hG (bcons (bit_at hG rfl (by decide) d0) (bcons (bit_at hG rfl (by decide) d1) (bcons (bit_at hG rfl (by decide) d2) (bcons (bit_at hG rfl (by decide) d3) bnil)))) (fun q hq => by
    simp only [iA1A, List.mem_cons, List.not_mem_nil, or_false] at hq
    rcases hq with rfl | rfl | rfl | rfl
    · exact rE_okR d0 rfl
    · exact rE_okR d1 rfl
    · exact rE_okR d2 rfl
    · exact rE_okR d3 rfl) (fun q hq => by
    simp only [iA1A, List.mem_cons, List.not_mem_nil, or_false] at hq
    rcases hq with rfl | rfl
    · exact ⟨_, rfl, 170, List.mem_singleton.mpr rfl, rfl⟩
    · exact ⟨_, rfl, a, rfl, ha⟩) trivial (fun q hq => by cases hq) hJ
  obtain ⟨Spc, Sls, Sst, Sh⟩ := S2
  dsimp only [iA1T] at z1 z2 z3 z4 z5 z6 z7 z8 z9
  have e2 : Sst = [] := by
    cases Sst with
    | nil => rfl
    | cons _ _ => exact z8.elim
  subst z4 e2
  have k0 := vR z7 (j := 0) (List.mem_of_getElem? (i := 0) rfl)
  obtain ⟨a1, k1, y1⟩ := vC z7 (List.mem_of_getElem? (i := 1) rfl)
  obtain ⟨a2, k2, y2⟩ := vC z7 (List.mem_of_getElem? (i := 2) rfl)
  obtain ⟨f, g1, g2⟩ := HG_sa z5
  obtain ⟨g, g3, g4⟩ := HG_im z5
  obtain ⟨ls2, gg, w1, w2, w3, w4, w5⟩ := im_loop (call := calF (Trm 1)) (k := a1) (by omega) g2 230 a2 Sls Sh g z5 g1 g3 ⟨k0, k1, k2⟩ (by omega) (by omega)
  have hJ2 : J9 (Sh.set 203 (.inr (.inl (0, 920, gg)))) := J9_set z3 (by decide)
  obtain ⟨S3, v1, v2, v3⟩ := (chkL_ok J9_okf q0f iE_k : Obl P9f W0 1 eM188 0 iEU iET iEA) [] rfl (Sh.set 203 (.inr (.inl (0, 920, gg)))) [] (54, ls2, [], Sh.set 203 (.inr (.inl (0, 920, gg)))) rfl w2 bnil ⟨List.prefix_rfl, (fun q hq => by cases hq)⟩ (fun q hq => by
    have e := List.mem_singleton.mp hq
    subst e
    exact ⟨_, w3, 170, List.mem_singleton.mpr rfl, rfl⟩) trivial (fun q hq => by cases hq) ⟨Fr.rf, hJ2⟩
  rcases v3 with ⟨l2, q1, _⟩ | ⟨r, p1, p2, o, o1, ρ', o2, o3, o4, o5⟩
  · cases q1
  · have eo := List.mem_singleton.mp o1
    subst eo
    cases r with
    | none => exact o5.elim
    | some vv =>
      obtain ⟨x, ex, _⟩ := o5
      subst ex
      have fr : Fr [] [(203, 1000), (204, 1000)] h S3.2.2.2 := Fr_tr2 (W1 := [(203, 1000), (204, 1000)]) (W2 := W0) rfl rfl (Fr_tr2 (W1 := W204) (W2 := [(203, 1000)]) rfl rfl z2 (Fr_203 g3)) v2.1
      have fr2 : Fr [] [(203, 1000)] Sh S3.2.2.2 := Fr_tr2 (W1 := [(203, 1000)]) (W2 := W0) rfl rfl (Fr_203 g3) v2.1
      have q0 : ρ2[0]? = some b0.toInt := at_mono z6 rfl
      have q1 : ρ2[1]? = some b1.toInt := at_mono z6 rfl
      have q2 : ρ2[2]? = some b2.toInt := at_mono z6 rfl
      have q3 : ρ2[3]? = some b3.toInt := at_mono z6 rfl
      have gE : ∀ m : Nat, rE (Sh.set 203 (.inr (.inl (0, 920, gg)))) 203 m = some (gg m) := fun m => rE_at m (List.getElem?_set_self (List.getElem?_eq_some_iff.mp g3).1)
      have nsh : NSh h → NSh S3.2.2.2 := fun n => NSh_sm w2 (SM_of v2.1 rfl rfl) (NSh_im z5 g1 g3 (a := a1.toInt.toNat) (fun m hm => w4 m (by omega) hm) (fun m hm => w5 m (fun p _ hp => hm p hp)) (NSh_sm hG (SM_of z2 rfl rfl) n))
      refine ⟨x, S3.2.2.2, Trm_succ.mpr ⟨eM188, S3, rfl, (show 2 ≤ m_L eM188 by decide), z1.trans (w1.trans v1), p1⟩, p2, v2.2, fr, rE_keep fr2 rfl (okR_c (z9 _ (List.mem_of_getElem? (i := 1) rfl))), fun k hk hne b hb => ?_, fun v hv => ?_, nsh, fun k hk hne v hv => ?_⟩
      · have : k = 0 ∨ k = 2 ∨ k = 3 := by omega
        rcases this with rfl | rfl | rfl
        · rw [d0] at hb
          cases hb
          exact rE_keep fr2 rfl (okR_rE (z9 _ (List.mem_of_getElem? (i := 0) rfl)) q0)
        · rw [d2] at hb
          cases hb
          exact rE_keep fr2 rfl (okR_rE (z9 _ (List.mem_of_getElem? (i := 2) rfl)) q2)
        · rw [d3] at hb
          cases hb
          exact rE_keep fr2 rfl (okR_rE (z9 _ (List.mem_of_getElem? (i := 3) rfl)) q3)
      · have hv2 : rE Sh 183 6 = some v := rE_keep z2 rfl hv
        rw [rE_at 6 g1] at hv2
        have h6 := w4 6 (by omega) (by omega)
        have h7 := rE_keep v2.1 rfl (gE (230 * a1.toInt.toNat + 6))
        rw [h6, show 230 * a1.toInt.toNat + 6 = 236 by omega] at h7
        rw [h7]
        exact hv2
      · have hv2 : rE Sh 203 (230 * k + 6) = some v := rE_keep z2 rfl hv
        rw [rE_at _ g3] at hv2
        have h6 := w5 (230 * k + 6) (fun p p1 p2 => by omega)
        have h7 := rE_keep v2.1 rfl (gE (230 * k + 6))
        rw [h6] at h7
        rw [h7]
        exact hv2
theorem imX2 {h : List cC} (hi : INV h) {a : Int32} (ha : a.toInt = 2) : ∃ (r : Int32) (h1 : List cC), Trm 4 113 [cR 0, cI a] h (some (cI r)) h1 ∧ HG TT [] h1 ∧ J9 h1 ∧ Fr [] fn_imageX2.2.2.2.2.2.1 h h1 ∧ (∃ w : Int32, fI h 12 4 = some w ∧ fI h1 52 4 = some w) ∧ rE h1 78 2 = some 1 ∧ ∀ k : Nat, k < 4 → k ≠ 2 → ∀ b : Int32, rE h 78 k = some b → rE h1 78 k = some b := by
  obtain ⟨w, w1, w2⟩ := hi.2.2.1
  obtain ⟨w', x1, x2, x3⟩ := HG_f hi.1 (k := 12) (j := 4) (b := (-2147483648, 2147483647)) rfl rfl
  rw [w1] at x1
  cases x1
  dsimp only at x2 x3
  obtain ⟨ci, vs, f1, f2⟩ := fI_inv w1
  obtain ⟨b0, d0, _, _⟩ := hi.2.2.2 0 (by decide)
  obtain ⟨b1, d1, _, _⟩ := hi.2.2.2 1 (by decide)
  obtain ⟨b2, d2, _, _⟩ := hi.2.2.2 2 (by decide)
  obtain ⟨b3, d3, _, _⟩ := hi.2.2.2 3 (by decide)
  obtain ⟨r, h1, t1, t2, t3, t4, o, o1, ρ', o2, o3, o4, o5, o6⟩ := ft_imageX2 [w.toInt, b0.toInt, b1.toInt, b2.toInt, b3.toInt] [cR 0, cI a] h hi.1 (bcons ⟨x2, x3⟩ (bcons (bit_at hi.1 rfl (by decide) d0) (bcons (bit_at hi.1 rfl (by decide) d1) (bcons (bit_at hi.1 rfl (by decide) d2) (bcons (bit_at hi.1 rfl (by decide) d3) bnil))))) (fun q hq => by
    simp only [List.mem_cons, List.not_mem_nil, or_false] at hq
    rcases hq with rfl | rfl | rfl | rfl
    · exact rE_okR d0 rfl
    · exact rE_okR d1 rfl
    · exact rE_okR d2 rfl
    · exact rE_okR d3 rfl) ⟨⟨0, List.mem_singleton.mpr rfl, rfl⟩, ⟨a, rfl, ha⟩, trivial⟩ (fun q hq => by
    have e := List.mem_singleton.mp hq
    subst e
    exact ⟨ci, vs, _, f1, f2, vxs rfl⟩) hi.2.1
  have e := List.mem_singleton.mp o1
  subst e
  have r0 : ρ'[0]? = some w.toInt := at_mono o2 rfl
  have q0 : ρ'[1]? = some b0.toInt := at_mono o2 rfl
  have q1 : ρ'[2]? = some b1.toInt := at_mono o2 rfl
  have q2 : ρ'[3]? = some b2.toInt := at_mono o2 rfl
  have q3 : ρ'[4]? = some b3.toInt := at_mono o2 rfl
  cases r with
  | none => exact o6.elim
  | some v =>
    obtain ⟨x, ex, _⟩ := o6
    subst ex
    refine ⟨x, h1, t1, t2, t4, t3, ⟨w, w1, okF_fI o5 (List.mem_of_getElem? (i := 1) rfl) r0⟩, okR_c (o4 _ (List.mem_of_getElem? (i := 2) rfl)), fun k hk hne b hb => ?_⟩
    have : k = 0 ∨ k = 1 ∨ k = 3 := by omega
    rcases this with rfl | rfl | rfl
    · rw [d0] at hb
      cases hb
      exact okR_rE (o4 _ (List.mem_of_getElem? (i := 0) rfl)) q0
    · rw [d1] at hb
      cases hb
      exact okR_rE (o4 _ (List.mem_of_getElem? (i := 1) rfl)) q1
    · rw [d3] at hb
      cases hb
      exact okR_rE (o4 _ (List.mem_of_getElem? (i := 3) rfl)) q3
theorem imM2 {h : List cC} (hG : HG TT [] h) (hJ : J9 h) (h4 : ∀ k : Nat, k < 4 → ∃ b : Int32, rE h 204 k = some b) {a : Int32} (ha : a.toInt = 2) : ∃ (r : Int32) (h2 : List cC), Trm 2 188 [cR 170, cI a] h (some (cI r)) h2 ∧ HG TT [] h2 ∧ J9 h2 ∧ Fr [] [(203, 1000), (204, 1000)] h h2 ∧ rE h2 204 2 = some 1 ∧ (∀ k : Nat, k < 4 → k ≠ 2 → ∀ b : Int32, rE h 204 k = some b → rE h2 204 k = some b) ∧ (∀ v : Int32, rE h 183 6 = some v → rE h2 203 466 = some v) ∧ (NSh h → NSh h2) ∧ ∀ k : Nat, k < 4 → k ≠ 2 → ∀ v : Int32, rE h 203 (230 * k + 6) = some v → rE h2 203 (230 * k + 6) = some v := by
  obtain ⟨b0, d0⟩ := h4 0 (by decide)
  obtain ⟨b1, d1⟩ := h4 1 (by decide)
  obtain ⟨b2, d2⟩ := h4 2 (by decide)
  obtain ⟨b3, d3⟩ := h4 3 (by decide)
  obtain ⟨S2, ρ2, z1, z2, z3, z4, z5, z6, z7, z8, z9⟩ := Obl_oneR (chkL_ok J9_okf q1f iA2_k) (ρ := [b0.toInt, b1.toInt, b2.toInt, b3.toInt]) rfl (S := (0, [(0, cR 170), (1, cI a)], [], h)) rfl hG (bcons (bit_at hG rfl (by decide) d0) (bcons (bit_at hG rfl (by decide) d1) (bcons (bit_at hG rfl (by decide) d2) (bcons (bit_at hG rfl (by decide) d3) bnil)))) (fun q hq => by
    simp only [iA2A, List.mem_cons, List.not_mem_nil, or_false] at hq
    rcases hq with rfl | rfl | rfl | rfl
    · exact rE_okR d0 rfl
    · exact rE_okR d1 rfl
    · exact rE_okR d2 rfl
    · exact rE_okR d3 rfl) (fun q hq => by
    simp only [iA2A, List.mem_cons, List.not_mem_nil, or_false] at hq
    rcases hq with rfl | rfl
    · exact ⟨_, rfl, 170, List.mem_singleton.mpr rfl, rfl⟩
    · exact ⟨_, rfl, a, rfl, ha⟩) trivial (fun q hq => by cases hq) hJ
  obtain ⟨Spc, Sls, Sst, Sh⟩ := S2
  dsimp only [iA2T] at z1 z2 z3 z4 z5 z6 z7 z8 z9
  have e2 : Sst = [] := by
    cases Sst with
    | nil => rfl
    | cons _ _ => exact z8.elim
  subst z4 e2
  have k0 := vR z7 (j := 0) (List.mem_of_getElem? (i := 0) rfl)
  obtain ⟨a1, k1, y1⟩ := vC z7 (List.mem_of_getElem? (i := 1) rfl)
  obtain ⟨a2, k2, y2⟩ := vC z7 (List.mem_of_getElem? (i := 2) rfl)
  obtain ⟨f, g1, g2⟩ := HG_sa z5
  obtain ⟨g, g3, g4⟩ := HG_im z5
  obtain ⟨ls2, gg, w1, w2, w3, w4, w5⟩ := im_loop (call := calF (Trm 1)) (k := a1) (by omega) g2 230 a2 Sls Sh g z5 g1 g3 ⟨k0, k1, k2⟩ (by omega) (by omega)
  have hJ2 : J9 (Sh.set 203 (.inr (.inl (0, 920, gg)))) := J9_set z3 (by decide)
  obtain ⟨S3, v1, v2, v3⟩ := (chkL_ok J9_okf q0f iE_k : Obl P9f W0 1 eM188 0 iEU iET iEA) [] rfl (Sh.set 203 (.inr (.inl (0, 920, gg)))) [] (54, ls2, [], Sh.set 203 (.inr (.inl (0, 920, gg)))) rfl w2 bnil ⟨List.prefix_rfl, (fun q hq => by cases hq)⟩ (fun q hq => by
    have e := List.mem_singleton.mp hq
    subst e
    exact ⟨_, w3, 170, List.mem_singleton.mpr rfl, rfl⟩) trivial (fun q hq => by cases hq) ⟨Fr.rf, hJ2⟩
  rcases v3 with ⟨l2, q1, _⟩ | ⟨r, p1, p2, o, o1, ρ', o2, o3, o4, o5⟩
  · cases q1
  · have eo := List.mem_singleton.mp o1
    subst eo
    cases r with
    | none => exact o5.elim
    | some vv =>
      obtain ⟨x, ex, _⟩ := o5
      subst ex
      have fr : Fr [] [(203, 1000), (204, 1000)] h S3.2.2.2 := Fr_tr2 (W1 := [(203, 1000), (204, 1000)]) (W2 := W0) rfl rfl (Fr_tr2 (W1 := W204) (W2 := [(203, 1000)]) rfl rfl z2 (Fr_203 g3)) v2.1
      have fr2 : Fr [] [(203, 1000)] Sh S3.2.2.2 := Fr_tr2 (W1 := [(203, 1000)]) (W2 := W0) rfl rfl (Fr_203 g3) v2.1
      have q0 : ρ2[0]? = some b0.toInt := at_mono z6 rfl
      have q1 : ρ2[1]? = some b1.toInt := at_mono z6 rfl
      have q2 : ρ2[2]? = some b2.toInt := at_mono z6 rfl
      have q3 : ρ2[3]? = some b3.toInt := at_mono z6 rfl
      have gE : ∀ m : Nat, rE (Sh.set 203 (.inr (.inl (0, 920, gg)))) 203 m = some (gg m) := fun m => rE_at m (List.getElem?_set_self (List.getElem?_eq_some_iff.mp g3).1)
      have nsh : NSh h → NSh S3.2.2.2 := fun n => NSh_sm w2 (SM_of v2.1 rfl rfl) (NSh_im z5 g1 g3 (a := a1.toInt.toNat) (fun m hm => w4 m (by omega) hm) (fun m hm => w5 m (fun p _ hp => hm p hp)) (NSh_sm hG (SM_of z2 rfl rfl) n))
      refine ⟨x, S3.2.2.2, Trm_succ.mpr ⟨eM188, S3, rfl, (show 2 ≤ m_L eM188 by decide), z1.trans (w1.trans v1), p1⟩, p2, v2.2, fr, rE_keep fr2 rfl (okR_c (z9 _ (List.mem_of_getElem? (i := 2) rfl))), fun k hk hne b hb => ?_, fun v hv => ?_, nsh, fun k hk hne v hv => ?_⟩
      · have : k = 0 ∨ k = 1 ∨ k = 3 := by omega
        rcases this with rfl | rfl | rfl
        · rw [d0] at hb
          cases hb
          exact rE_keep fr2 rfl (okR_rE (z9 _ (List.mem_of_getElem? (i := 0) rfl)) q0)
        · rw [d1] at hb
          cases hb
          exact rE_keep fr2 rfl (okR_rE (z9 _ (List.mem_of_getElem? (i := 1) rfl)) q1)
        · rw [d3] at hb
          cases hb
          exact rE_keep fr2 rfl (okR_rE (z9 _ (List.mem_of_getElem? (i := 3) rfl)) q3)
      · have hv2 : rE Sh 183 6 = some v := rE_keep z2 rfl hv
        rw [rE_at 6 g1] at hv2
        have h6 := w4 6 (by omega) (by omega)
        have h7 := rE_keep v2.1 rfl (gE (230 * a1.toInt.toNat + 6))
        rw [h6, show 230 * a1.toInt.toNat + 6 = 466 by omega] at h7
        rw [h7]
        exact hv2
      · have hv2 : rE Sh 203 (230 * k + 6) = some v := rE_keep z2 rfl hv
        rw [rE_at _ g3] at hv2
        have h6 := w5 (230 * k + 6) (fun p p1 p2 => by omega)
        have h7 := rE_keep v2.1 rfl (gE (230 * k + 6))
        rw [h6] at h7
        rw [h7]
        exact hv2
theorem imX3 {h : List cC} (hi : INV h) {a : Int32} (ha : a.toInt = 3) : ∃ (r : Int32) (h1 : List cC), Trm 4 113 [cR 0, cI a] h (some (cI r)) h1 ∧ HG TT [] h1 ∧ J9 h1 ∧ Fr [] fn_imageX3.2.2.2.2.2.1 h h1 ∧ (∃ w : Int32, fI h 12 4 = some w ∧ fI h1 65 4 = some w) ∧ rE h1 78 3 = some 1 ∧ ∀ k : Nat, k < 4 → k ≠ 3 → ∀ b : Int32, rE h 78 k = some b → rE h1 78 k = some b := by
  obtain ⟨w, w1, w2⟩ := hi.2.2.1
  obtain ⟨w', x1, x2, x3⟩ := HG_f hi.1 (k := 12) (j := 4) (b := (-2147483648, 2147483647)) rfl rfl
  rw [w1] at x1
  cases x1
  dsimp only at x2 x3
  obtain ⟨ci, vs, f1, f2⟩ := fI_inv w1
  obtain ⟨b0, d0, _, _⟩ := hi.2.2.2 0 (by decide)
  obtain ⟨b1, d1, _, _⟩ := hi.2.2.2 1 (by decide)
  obtain ⟨b2, d2, _, _⟩ := hi.2.2.2 2 (by decide)
  obtain ⟨b3, d3, _, _⟩ := hi.2.2.2 3 (by decide)
  obtain ⟨r, h1, t1, t2, t3, t4, o, o1, ρ', o2, o3, o4, o5, o6⟩ := ft_imageX3 [w.toInt, b0.toInt, b1.toInt, b2.toInt, b3.toInt] [cR 0, cI a] h hi.1 (bcons ⟨x2, x3⟩ (bcons (bit_at hi.1 rfl (by decide) d0) (bcons (bit_at hi.1 rfl (by decide) d1) (bcons (bit_at hi.1 rfl (by decide) d2) (bcons (bit_at hi.1 rfl (by decide) d3) bnil))))) (fun q hq => by
    simp only [List.mem_cons, List.not_mem_nil, or_false] at hq
    rcases hq with rfl | rfl | rfl | rfl
    · exact rE_okR d0 rfl
    · exact rE_okR d1 rfl
    · exact rE_okR d2 rfl
    · exact rE_okR d3 rfl) ⟨⟨0, List.mem_singleton.mpr rfl, rfl⟩, ⟨a, rfl, ha⟩, trivial⟩ (fun q hq => by
    have e := List.mem_singleton.mp hq
    subst e
    exact ⟨ci, vs, _, f1, f2, vxs rfl⟩) hi.2.1
  have e := List.mem_singleton.mp o1
  subst e
  have r0 : ρ'[0]? = some w.toInt := at_mono o2 rfl
  have q0 : ρ'[1]? = some b0.toInt := at_mono o2 rfl
  have q1 : ρ'[2]? = some b1.toInt := at_mono o2 rfl
  have q2 : ρ'[3]? = some b2.toInt := at_mono o2 rfl
  have q3 : ρ'[4]? = some b3.toInt := at_mono o2 rfl
  cases r with
  | none => exact o6.elim
  | some v =>
    obtain ⟨x, ex, _⟩ := o6
    subst ex
    refine ⟨x, h1, t1, t2, t4, t3, ⟨w, w1, okF_fI o5 (List.mem_of_getElem? (i := 1) rfl) r0⟩, okR_c (o4 _ (List.mem_of_getElem? (i := 3) rfl)), fun k hk hne b hb => ?_⟩
    have : k = 0 ∨ k = 1 ∨ k = 2 := by omega
    rcases this with rfl | rfl | rfl
    · rw [d0] at hb
      cases hb
      exact okR_rE (o4 _ (List.mem_of_getElem? (i := 0) rfl)) q0
    · rw [d1] at hb
      cases hb
      exact okR_rE (o4 _ (List.mem_of_getElem? (i := 1) rfl)) q1
    · rw [d2] at hb
      cases hb
      exact okR_rE (o4 _ (List.mem_of_getElem? (i := 2) rfl)) q2
theorem imM3 {h : List cC} (hG : HG TT [] h) (hJ : J9 h) (h4 : ∀ k : Nat, k < 4 → ∃ b : Int32, rE h 204 k = some b) {a : Int32} (ha : a.toInt = 3) : ∃ (r : Int32) (h2 : List cC), Trm 2 188 [cR 170, cI a] h (some (cI r)) h2 ∧ HG TT [] h2 ∧ J9 h2 ∧ Fr [] [(203, 1000), (204, 1000)] h h2 ∧ rE h2 204 3 = some 1 ∧ (∀ k : Nat, k < 4 → k ≠ 3 → ∀ b : Int32, rE h 204 k = some b → rE h2 204 k = some b) ∧ (∀ v : Int32, rE h 183 6 = some v → rE h2 203 696 = some v) ∧ (NSh h → NSh h2) ∧ ∀ k : Nat, k < 4 → k ≠ 3 → ∀ v : Int32, rE h 203 (230 * k + 6) = some v → rE h2 203 (230 * k + 6) = some v := by
  obtain ⟨b0, d0⟩ := h4 0 (by decide)
  obtain ⟨b1, d1⟩ := h4 1 (by decide)
  obtain ⟨b2, d2⟩ := h4 2 (by decide)
  obtain ⟨b3, d3⟩ := h4 3 (by decide)
  obtain ⟨S2, ρ2, z1, z2, z3, z4, z5, z6, z7, z8, z9⟩ := Obl_oneR (chkL_ok J9_okf q1f iA3_k) (ρ := [b0.toInt, b1.toInt, b2.toInt, b3.toInt]) rfl (S := (0, [(0, cR 170), (1, cI a)], [], h)) rfl hG (bcons (bit_at hG rfl (by decide) d0) (bcons (bit_at hG rfl (by decide) d1) (bcons (bit_at hG rfl (by decide) d2) (bcons (bit_at hG rfl (by decide) d3) bnil)))) (fun q hq => by
    simp only [iA3A, List.mem_cons, List.not_mem_nil, or_false] at hq
    rcases hq with rfl | rfl | rfl | rfl
    · exact rE_okR d0 rfl
    · exact rE_okR d1 rfl
    · exact rE_okR d2 rfl
    · exact rE_okR d3 rfl) (fun q hq => by
    simp only [iA3A, List.mem_cons, List.not_mem_nil, or_false] at hq
    rcases hq with rfl | rfl
    · exact ⟨_, rfl, 170, List.mem_singleton.mpr rfl, rfl⟩
    · exact ⟨_, rfl, a, rfl, ha⟩) trivial (fun q hq => by cases hq) hJ
  obtain ⟨Spc, Sls, Sst, Sh⟩ := S2
  dsimp only [iA3T] at z1 z2 z3 z4 z5 z6 z7 z8 z9
  have e2 : Sst = [] := by
    cases Sst with
    | nil => rfl
    | cons _ _ => exact z8.elim
  subst z4 e2
  have k0 := vR z7 (j := 0) (List.mem_of_getElem? (i := 0) rfl)
  obtain ⟨a1, k1, y1⟩ := vC z7 (List.mem_of_getElem? (i := 1) rfl)
  obtain ⟨a2, k2, y2⟩ := vC z7 (List.mem_of_getElem? (i := 2) rfl)
  obtain ⟨f, g1, g2⟩ := HG_sa z5
  obtain ⟨g, g3, g4⟩ := HG_im z5
  obtain ⟨ls2, gg, w1, w2, w3, w4, w5⟩ := im_loop (call := calF (Trm 1)) (k := a1) (by omega) g2 230 a2 Sls Sh g z5 g1 g3 ⟨k0, k1, k2⟩ (by omega) (by omega)
  have hJ2 : J9 (Sh.set 203 (.inr (.inl (0, 920, gg)))) := J9_set z3 (by decide)
  obtain ⟨S3, v1, v2, v3⟩ := (chkL_ok J9_okf q0f iE_k : Obl P9f W0 1 eM188 0 iEU iET iEA) [] rfl (Sh.set 203 (.inr (.inl (0, 920, gg)))) [] (54, ls2, [], Sh.set 203 (.inr (.inl (0, 920, gg)))) rfl w2 bnil ⟨List.prefix_rfl, (fun q hq => by cases hq)⟩ (fun q hq => by
    have e := List.mem_singleton.mp hq
    subst e
    exact ⟨_, w3, 170, List.mem_singleton.mpr rfl, rfl⟩) trivial (fun q hq => by cases hq) ⟨Fr.rf, hJ2⟩
  rcases v3 with ⟨l2, q1, _⟩ | ⟨r, p1, p2, o, o1, ρ', o2, o3, o4, o5⟩
  · cases q1
  · have eo := List.mem_singleton.mp o1
    subst eo
    cases r with
    | none => exact o5.elim
    | some vv =>
      obtain ⟨x, ex, _⟩ := o5
      subst ex
      have fr : Fr [] [(203, 1000), (204, 1000)] h S3.2.2.2 := Fr_tr2 (W1 := [(203, 1000), (204, 1000)]) (W2 := W0) rfl rfl (Fr_tr2 (W1 := W204) (W2 := [(203, 1000)]) rfl rfl z2 (Fr_203 g3)) v2.1
      have fr2 : Fr [] [(203, 1000)] Sh S3.2.2.2 := Fr_tr2 (W1 := [(203, 1000)]) (W2 := W0) rfl rfl (Fr_203 g3) v2.1
      have q0 : ρ2[0]? = some b0.toInt := at_mono z6 rfl
      have q1 : ρ2[1]? = some b1.toInt := at_mono z6 rfl
      have q2 : ρ2[2]? = some b2.toInt := at_mono z6 rfl
      have q3 : ρ2[3]? = some b3.toInt := at_mono z6 rfl
      have gE : ∀ m : Nat, rE (Sh.set 203 (.inr (.inl (0, 920, gg)))) 203 m = some (gg m) := fun m => rE_at m (List.getElem?_set_self (List.getElem?_eq_some_iff.mp g3).1)
      have nsh : NSh h → NSh S3.2.2.2 := fun n => NSh_sm w2 (SM_of v2.1 rfl rfl) (NSh_im z5 g1 g3 (a := a1.toInt.toNat) (fun m hm => w4 m (by omega) hm) (fun m hm => w5 m (fun p _ hp => hm p hp)) (NSh_sm hG (SM_of z2 rfl rfl) n))
      refine ⟨x, S3.2.2.2, Trm_succ.mpr ⟨eM188, S3, rfl, (show 2 ≤ m_L eM188 by decide), z1.trans (w1.trans v1), p1⟩, p2, v2.2, fr, rE_keep fr2 rfl (okR_c (z9 _ (List.mem_of_getElem? (i := 3) rfl))), fun k hk hne b hb => ?_, fun v hv => ?_, nsh, fun k hk hne v hv => ?_⟩
      · have : k = 0 ∨ k = 1 ∨ k = 2 := by omega
        rcases this with rfl | rfl | rfl
        · rw [d0] at hb
          cases hb
          exact rE_keep fr2 rfl (okR_rE (z9 _ (List.mem_of_getElem? (i := 0) rfl)) q0)
        · rw [d1] at hb
          cases hb
          exact rE_keep fr2 rfl (okR_rE (z9 _ (List.mem_of_getElem? (i := 1) rfl)) q1)
        · rw [d2] at hb
          cases hb
          exact rE_keep fr2 rfl (okR_rE (z9 _ (List.mem_of_getElem? (i := 2) rfl)) q2)
      · have hv2 : rE Sh 183 6 = some v := rE_keep z2 rfl hv
        rw [rE_at 6 g1] at hv2
        have h6 := w4 6 (by omega) (by omega)
        have h7 := rE_keep v2.1 rfl (gE (230 * a1.toInt.toNat + 6))
        rw [h6, show 230 * a1.toInt.toNat + 6 = 696 by omega] at h7
        rw [h7]
        exact hv2
      · have hv2 : rE Sh 203 (230 * k + 6) = some v := rE_keep z2 rfl hv
        rw [rE_at _ g3] at hv2
        have h6 := w5 (230 * k + 6) (fun p p1 p2 => by omega)
        have h7 := rE_keep v2.1 rfl (gE (230 * k + 6))
        rw [h6] at h7
        rw [h7]
        exact hv2
