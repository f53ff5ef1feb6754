/-! BY HAND, 2: codes are added to a LAW -/
theorem lv_num (b : Int32) : LV1 (32 * b + 0) := by
  intro h
  exfalso
  have h1 := congrArg (fun x : Int32 => x.toBitVec.toNat) h
  rw [Int32.toBitVec_and, BitVec.toNat_and, Int32.toBitVec_add, BitVec.toNat_add, Int32.toBitVec_mul, BitVec.toNat_mul] at h1
  have e31 : (31 : Int32).toBitVec.toNat = 2 ^ 5 - 1 := rfl
  have e32 : (32 : Int32).toBitVec.toNat = 32 := rfl
  have e0 : (0 : Int32).toBitVec.toNat = 0 := rfl
  have e1 : (1 : Int32).toBitVec.toNat = 1 := rfl
  rw [e31, e32, e0, e1, Nat.and_two_pow_sub_one_eq_mod] at h1
  omega
theorem i32_of {b : Int32} {n : Int} (h : b.toInt = n) : b = Int32.ofInt n := by
  rw [← h, Int32.ofInt_toInt]
theorem lv_word {b : Int32} (h0 : 0 ≤ b.toInt) (h8 : b.toInt ≤ 8) : LV1 (32 * b + 1) := by
  have h : b.toInt = 0 ∨ b.toInt = 1 ∨ b.toInt = 2 ∨ b.toInt = 3 ∨ b.toInt = 4 ∨ b.toInt = 5 ∨ b.toInt = 6 ∨ b.toInt = 7 ∨ b.toInt = 8 := by omega
  intro _
  rcases h with h | h | h | h | h | h | h | h | h <;> rw [i32_of h] <;> decide
theorem lv_op {a : Int32} (h0 : 0 ≤ a.toInt) (h8 : a.toInt ≤ 13) : LV1 (32 * 0 + a) := by
  have h : a.toInt = 0 ∨ a.toInt = 1 ∨ a.toInt = 2 ∨ a.toInt = 3 ∨ a.toInt = 4 ∨ a.toInt = 5 ∨ a.toInt = 6 ∨ a.toInt = 7 ∨ a.toInt = 8 ∨ a.toInt = 9 ∨ a.toInt = 10 ∨ a.toInt = 11 ∨ a.toInt = 12 ∨ a.toInt = 13 := by omega
  intro _
  rcases h with h | h | h | h | h | h | h | h | h | h | h | h | h | h <;> rw [i32_of h] <;> decide
abbrev lawT (k : Nat) : tT := .inl (0, [.inr (.inr (.inr (.inl [k + 1]))), .inl (0, 400), .inr (.inr (.inr (.inl [k + 2]))), .inr (.inr (.inr (.inl [k + 3]))), .inl (0, 12), .inl (-2147483648, 2147483647), .inr (.inr (.inr (.inl [k + 4])))])
theorem lawT_ok {k : Nat} (hk : k ∈ lawK) : TT[k]? = some (lawT k) ∧ TT[k + 1]? = some (.inr (.inl (0, 400, f32, []))) := by
  unfold lawK at hk
  simp only [List.mem_cons, List.not_mem_nil, or_false] at hk
  rcases hk with rfl | rfl | rfl | rfl | rfl | rfl <;> exact ⟨rfl, rfl⟩
/-- what a LAW's cell holds -/
theorem law_at {h : List cC} (hG : HG TT [] h) {k : Nat} (hk : k ∈ lawK) : ∃ (vs : List cV) (n : Int32) (f : Nat → Int32), h[k]? = some (.inl (0, vs)) ∧ vs[0]? = some (cR (k + 1)) ∧ vs[1]? = some (cI n) ∧ 0 ≤ n.toInt ∧ n.toInt ≤ 400 ∧ h[k + 1]? = some (.inr (.inl (0, 400, f))) := by
  obtain ⟨t1, t2⟩ := lawT_ok hk
  obtain ⟨c, h1, vs, h2, h3⟩ := hG.2 k _ t1
  obtain ⟨c2, h4, f, h5, h6⟩ := hG.2 (k + 1) _ t2
  obtain ⟨v0, g1, k', g2, g3⟩ := fsV_at h3 (j := 0) rfl
  obtain ⟨v1, g4, n, g5, g6⟩ := fsV_at h3 (j := 1) rfl
  have g2 := List.mem_singleton.mp g2
  subst g2 g3 g5
  exact ⟨vs, n, f, by rw [h1, h2], g1, g4, g6.1, g6.2, by rw [h4, h5]⟩
theorem lawK_ne {k j : Nat} (hk : k ∈ lawK) (hj : j ∈ lawK) : j + 1 ≠ k := by
  unfold lawK at hk hj
  simp only [List.mem_cons, List.not_mem_nil, or_false] at hk hj
  omega
theorem lawK_row {k : Nat} (hk : k ∈ lawK) : k ≠ 172 ∧ k + 1 ≠ 172 ∧ k ≠ 174 ∧ k + 1 ≠ 174 ∧ k ≠ 175 ∧ k + 1 ≠ 175 := by
  unfold lawK at hk
  simp only [List.mem_cons, List.not_mem_nil, or_false] at hk
  omega
abbrev addW : aW := [(80, 1), (80, 5), (81, 1000), (85, 1), (85, 5), (86, 1000), (90, 1), (90, 5), (91, 1000), (95, 1), (95, 5), (96, 1000), (100, 1), (100, 5), (101, 1000), (105, 1), (105, 5), (106, 1000)]
theorem addW_ok {k : Nat} (hk : k ∈ lawK) : inW addW k 1 = true ∧ inW addW (k + 1) 1000 = true ∧ pNo PT9 (k + 1) = true := by
  unfold lawK at hk
  simp only [List.mem_cons, List.not_mem_nil, or_false] at hk
  rcases hk with rfl | rfl | rfl | rfl | rfl | rfl <;> exact ⟨rfl, rfl, rfl⟩
theorem add_pre {call : cCl} {ls : List (Nat × cV)} {h h0 : List cC} (hG : HG TT [] h) (hJ : J9 h) (hF : Fr PT9 addW h0 h) {k : Nat} (hk : k ∈ lawK) {a b : Int32} (h1 : clk ls 0 = some (cR k)) (h2 : clk ls 1 = some (cI a)) (h3 : clk ls 2 = some (cI b)) (hx : LV1 (32 * b + a)) : ∃ h2 : List cC, Go call eM1 none (0, ls, [], h) (37, ls, [], h2) ∧ HG TT [] h2 ∧ J9 h2 ∧ Fr PT9 addW h0 h2 := by
  obtain ⟨vs, n, f, g1, g2, g3, g4, g5, g6⟩ := law_at hG hk
  obtain ⟨t1, t2⟩ := lawT_ok hk
  obtain ⟨w1, w2, w3⟩ := addW_ok hk
  have e400 : (Int32.ofNat 400).toInt = 400 := rfl
  have pre : ∀ S : cS, Go call eM1 none (9, ls, [cI (Int32.ofNat 400), cI n], h) S → Go call eM1 none (0, ls, [], h) S := fun S hs =>
    Go.step (o_aload_n (i := 0) rfl h1) (Go.step (o_get rfl rfl rfl g1 g3) (Go.step (o_aload_n (i := 0) rfl h1) (Go.step (o_get rfl rfl rfl g1 g2) (Go.step (o_len rfl g6) hs))))
  by_cases hc : (400 : Int) ≤ n.toInt
  · refine ⟨h, pre _ (Go.step (o_step rfl (?_ : cStep call eM1 none (.if_icmp .ge 28) 3 9 ls [cI (Int32.ofNat 400), cI n] h = some (37, ls, [], h))) Go.rf), hG, hJ, hF⟩
    show kIc .ge 28 3 9 ls [cI (Int32.ofNat 400), cI n] h = _
    unfold kIc
    have hd : cDec .ge n (Int32.ofNat 400) = true := decide_eq_true (Int32.le_iff_toInt_le.mpr (by rw [e400]; exact hc))
    dsimp only
    rw [hd]
    rfl
  · have hd : cDec .ge n (Int32.ofNat 400) = false := decide_eq_false (fun z => hc (by rw [Int32.le_iff_toInt_le, e400] at z; exact z))
    have s9 : cOne call eM1 none (9, ls, [cI (Int32.ofNat 400), cI n], h) = some (12, ls, [], h) := o_step (ins := .if_icmp .ge 28) (len := 3) rfl (by
      show kIc .ge 28 3 9 ls [cI (Int32.ofNat 400), cI n] h = _
      unfold kIc
      dsimp only
      rw [hd]
      rfl)
    have hin : inB n 400 = true := decide_eq_true (show vp_in n 400 from vp_in_iff.mpr ⟨g4, by omega⟩)
    have hne : k + 1 ≠ k := by omega
    have hk2 : (h.set (k + 1) (.inr (.inl (0, 400, upd f n.toNatClampNeg (32 * b + a)))))[k]? = some (.inl (0, vs)) := by
      rw [List.getElem?_set_ne hne]
      exact g1
    have hcl : classes[0]? = some classes[0] := rfl
    refine ⟨(h.set (k + 1) (.inr (.inl (0, 400, upd f n.toNatClampNeg (32 * b + a))))).set k (.inl (0, vs.set 1 (cI (n + 1)))), pre _ (Go.step s9 (Go.step (o_aload_n (i := 0) rfl h1) (Go.step (o_get rfl rfl rfl g1 g2) (Go.step (o_aload_n (i := 0) rfl h1) (Go.step (o_get rfl rfl rfl g1 g3) (Go.step (o_step rfl rfl) (Go.step (o_iload_n (i := 2) rfl h3) (Go.step (o_step rfl rfl) (Go.step (o_iload_n (i := 1) rfl h2) (Go.step (o_step rfl rfl) (Go.step (o_iast rfl g6 hin) (Go.step (o_aload_n (i := 0) rfl h1) (Go.step (o_step rfl rfl) (Go.step (o_get rfl rfl rfl hk2 g3) (Go.step (o_step rfl rfl) (Go.step (o_step rfl rfl) (Go.step (o_put rfl rfl rfl hk2 g3 hcl rfl rfl) Go.rf))))))))))))))))), ?_, ?_, ?_⟩
    · refine HG_put (ci := 0) (ts := [.inr (.inr (.inr (.inl [k + 1]))), .inl (0, 400), .inr (.inr (.inr (.inl [k + 2]))), .inr (.inr (.inr (.inl [k + 3]))), .inl (0, 12), .inl (-2147483648, 2147483647), .inr (.inr (.inr (.inl [k + 4])))]) (t := .inl (0, 400)) (HG_putI hG t2 g6 (i := n.toNatClampNeg) (x := 32 * b + a) (in_f32 _) (fun q hq => by cases hq) (fun j => ?_)) t1 rfl hk2 ⟨n + 1, rfl, ?_⟩
      · by_cases hj : j = n.toNatClampNeg
        · exact Or.inr ⟨hj, by rw [hj, pk_us]⟩
        · exact Or.inl (pk_un hj)
      · have hadd : (n + 1).toInt = n.toInt + 1 := by
          rw [Int32.toInt_add]
          exact bmod32 (by have : (1 : Int32).toInt = 1 := rfl; omega) (by have : (1 : Int32).toInt = 1 := rfl; omega)
        rw [hadd]
        exact ⟨by show (0 : Int) ≤ _; omega, by show _ ≤ (400 : Int); omega⟩
    · have hw3 := lawK_row hk
      refine ⟨?_, WFs_of (by rw [List.getElem?_set_ne hw3.1, List.getElem?_set_ne hw3.2.1]) (by rw [List.getElem?_set_ne hw3.2.2.1, List.getElem?_set_ne hw3.2.2.2.1]) (by rw [List.getElem?_set_ne hw3.2.2.2.2.1, List.getElem?_set_ne hw3.2.2.2.2.2]) hJ.2⟩
      intro j hj kd m f' hf'
      rw [List.getElem?_set_ne (Ne.symm (lawK_ne hk hj))] at hf'
      by_cases e : j = k
      · subst e
        rw [List.getElem?_set_self (List.getElem?_eq_some_iff.mp g6).1] at hf'
        cases hf'
        intro i hi4
        by_cases hi : i = n.toNatClampNeg
        · rw [hi, pk_us]
          exact hx
        · rw [pk_un hi]
          exact hJ.1 j hj _ _ _ g6 i hi4
      · rw [List.getElem?_set_ne (by omega)] at hf'
        exact hJ.1 j hj _ _ _ hf'
    · exact (hF.set g6 ⟨_, rfl, fun z => inW_ne w2 z, pNo_stay w3 _ _⟩).set hk2 ⟨_, rfl, fun j hj => List.getElem?_set_ne (fun e => by subst e; exact inW_ne w1 hj)⟩

abbrev addE (va vb : aV) (B0 : List eP) : aL := ((0, aArgs 0 [.inl lawK, va, vb], [], [], B0, []), (.inl 2, .inl 0, .inl 0))
abbrev addL (va vb : aV) (B0 : List eP) : aL := ((37, aArgs 0 [.inl lawK, va, vb], [], [], B0, []), (.inl 1, .inl 0, .inl 0))
theorem add_con {va vb : aV} {B0 : List eP} {outs : List aU} (hva : awide va = false) (hia : ∀ (ρ : List Int) (u : cV), vV ρ va u → ∃ a : Int32, u = cI a) (hib : ∀ (ρ : List Int) (u : cV), vV ρ vb u → ∃ b : Int32, u = cI b) (hcat : Nat.ble (acat [.inl lawK, va, vb]) (m_L eM1) = true) (hx : ∀ (ρ : List Int) (a b : Int32), okB ρ B0 → vV ρ va (cI a) → vV ρ vb (cI b) → LV1 (32 * b + a)) (hk : chkL P39 addW (mkQ P39 addW [] 3000 0) eM1 B0.length [addE va vb B0, addL va vb B0] outs 3000 (addL va vb B0) = true) : Con P9 1 (1, [.inl lawK, va, vb], [], B0, [], addW, outs) := by
  have hargs : aArgs 0 [.inl lawK, va, vb] = [(0, .inl lawK), (1, va), (2, vb)] := by
    show [(0, Sum.inl lawK), (1, va), ((match awide va with
      | true => 1 + 2
      | false => 1 + 1), vb)] = _
    rw [hva]
  refine Con_of (mi := 1) (N := eM1) rfl (m := (.inl 2, .inl 0, .inl 0)) (Ls := [addL va vb B0]) hcat (fun l hl => ?_)
  rcases List.mem_cons.mp hl with e | hl
  · subst e
    intro ρ0 hn h0 ρ S e1 hG hB hR hL hSt hF hK
    obtain ⟨Spc, Sls, Sst, Sh⟩ := S
    dsimp only at e1 hG hB hR hL hSt hF hK
    have e2 : Sst = [] := by
      cases Sst with
      | nil => rfl
      | cons _ _ => exact hSt.elim
    subst e1 e2
    rw [hargs] at hL
    obtain ⟨u0, c0, k, hk0, e0⟩ := hL (0, .inl lawK) List.mem_cons_self
    obtain ⟨u1, c1, v1⟩ := hL (1, va) (List.mem_cons_of_mem _ List.mem_cons_self)
    obtain ⟨u2, c2, v2⟩ := hL (2, vb) (List.mem_cons_of_mem _ (List.mem_cons_of_mem _ List.mem_cons_self))
    obtain ⟨a, ea⟩ := hia ρ u1 v1
    obtain ⟨b, eb⟩ := hib ρ u2 v2
    subst e0 ea eb
    obtain ⟨h2, z1, z2, z3, z4⟩ := add_pre (call := calF (Trm 0)) hG hK.2 hK.1 hk0 c0 c1 c2 (hx ρ a b hB v1 v2)
    refine ⟨(37, Sls, [], h2), z1, ⟨z4, z3⟩, Or.inl ⟨addL va vb B0, List.mem_cons_of_mem _ List.mem_cons_self, ρ, rfl, z2, hB, ⟨hR.1, (fun q hq => by cases hq)⟩, (by rw [← hargs] at hL; exact hL), trivial, (fun q hq => by cases hq), ?_⟩⟩
    exact lt3_of (Or.inl (show (1 : Nat) < 2 by decide))
  · have e := List.mem_singleton.mp hl
    subst e
    exact chkL_ok J9_ok (mkQ_ok J9_ok (d := 0) cs_nil 3000 0) hk
set_option maxRecDepth 1000000 in
theorem add_k0 : chkL P39 addW (mkQ P39 addW [] 3000 0) eM1 1 [addE (.inr (.inl (.inl 0))) (.inr (.inl (.inr (0, 1, 0)))) [(-2147483648, 2147483647)], addL (.inr (.inl (.inl 0))) (.inr (.inl (.inr (0, 1, 0)))) [(-2147483648, 2147483647)]] [(none, [], [(-2147483648, 2147483647)], [])] 3000 (addL (.inr (.inl (.inl 0))) (.inr (.inl (.inr (0, 1, 0)))) [(-2147483648, 2147483647)]) = true := by decide +kernel
set_option maxRecDepth 1000000 in
theorem add_k1 : chkL P39 addW (mkQ P39 addW [] 3000 0) eM1 1 [addE (.inr (.inl (.inl 1))) (.inr (.inl (.inr (0, 1, 0)))) [(0, 8)], addL (.inr (.inl (.inl 1))) (.inr (.inl (.inr (0, 1, 0)))) [(0, 8)]] [(none, [], [(0, 8)], [])] 3000 (addL (.inr (.inl (.inl 1))) (.inr (.inl (.inr (0, 1, 0)))) [(0, 8)]) = true := by decide +kernel
set_option maxRecDepth 1000000 in
theorem add_k2 : chkL P39 addW (mkQ P39 addW [] 3000 0) eM1 1 [addE (.inr (.inl (.inr (0, 1, 0)))) (.inr (.inl (.inl 0))) [(0, 13)], addL (.inr (.inl (.inr (0, 1, 0)))) (.inr (.inl (.inl 0))) [(0, 13)]] [(none, [], [(0, 13)], [])] 3000 (addL (.inr (.inl (.inr (0, 1, 0)))) (.inr (.inl (.inl 0))) [(0, 13)]) = true := by decide +kernel
theorem vI_cI {ρ : List Int} {e : aX} (u : cV) (h : vV ρ (.inr (.inl e)) u) : ∃ a : Int32, u = cI a := by
  obtain ⟨x, h1, _⟩ := h
  exact ⟨x, h1⟩
theorem vI_ev {ρ : List Int} {e : aX} {a : Int32} (h : vV ρ (.inr (.inl e)) (cI a)) : xv ρ e a.toInt := by
  obtain ⟨x, h1, h2⟩ := h
  cases h1
  exact h2
theorem add_c0 : Con P9 1 (1, [.inl lawK, .inr (.inl (.inl 0)), .inr (.inl (.inr (0, 1, 0)))], [], [(-2147483648, 2147483647)], [], addW, [(none, [], [(-2147483648, 2147483647)], [])]) := add_con rfl (fun _ u h => vI_cI u h) (fun _ u h => vI_cI u h) rfl (fun ρ a b hB ha hb => by
  have ha : a.toInt = 0 := vI_ev ha
  rw [i32_of ha]
  exact lv_num b) add_k0
theorem add_c1 : Con P9 1 (1, [.inl lawK, .inr (.inl (.inl 1)), .inr (.inl (.inr (0, 1, 0)))], [], [(0, 8)], [], addW, [(none, [], [(0, 8)], [])]) := add_con rfl (fun _ u h => vI_cI u h) (fun _ u h => vI_cI u h) rfl (fun ρ a b hB ha hb => by
  have ha : a.toInt = 1 := vI_ev ha
  have hb2 := xb_ok hB (vI_ev hb)
  have b1 : 0 + 1 * 0 ≤ b.toInt := hb2.1
  have b2 : b.toInt ≤ 0 + 1 * 8 := hb2.2
  rw [i32_of ha]
  exact lv_word (by omega) (by omega)) add_k1
theorem add_c2 : Con P9 1 (1, [.inl lawK, .inr (.inl (.inr (0, 1, 0))), .inr (.inl (.inl 0))], [], [(0, 13)], [], addW, [(none, [], [(0, 13)], [])]) := add_con rfl (fun _ u h => vI_cI u h) (fun _ u h => vI_cI u h) rfl (fun ρ a b hB ha hb => by
  have hb : b.toInt = 0 := vI_ev hb
  have ha2 := xb_ok hB (vI_ev ha)
  have b1 : 0 + 1 * 0 ≤ a.toInt := ha2.1
  have b2 : a.toInt ≤ 0 + 1 * 13 := ha2.2
  rw [i32_of hb]
  exact lv_op (by omega) (by omega)) add_k2
