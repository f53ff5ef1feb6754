/-! BY HAND, 3: a LAW's codes are judged -/
theorem jd_pre {call : cCl} {ls : List (Nat × cV)} {h : List cC} (hG : HG TT [] h) (hJ : J9 h) {k : Nat} (hk : k ∈ lawK) {i t : Int32} (h0 : clk ls 0 = some (cR k)) (h2 : clk ls 2 = some (cI t)) (h5 : clk ls 5 = some (cI i)) (hi : 0 ≤ i.toInt) (ht : t.toInt ≤ 400) : (t.toInt ≤ i.toInt ∧ Go call eM6 none (6, ls, [], h) (160, ls, [], h)) ∨ (i.toInt < t.toInt ∧ ∃ x : Int32, LV1 x ∧ Go call eM6 none (6, ls, [], h) (35, (7, cI (x &&& 31)) :: ((6, cI (x >>> (5 &&& 31))) :: ls.filter (ckI 6)).filter (ckI 7), [], h)) := by
  obtain ⟨vs, n, f, g1, g2, g3, g4, g5, g6⟩ := law_at hG hk
  have pre : ∀ S : cS, Go call eM6 none (9, ls, [cI t, cI i], h) S → Go call eM6 none (6, ls, [], h) S := fun S hs => Go.step (o_iload (i := 5) rfl h5) (Go.step (o_iload_n (i := 2) rfl h2) hs)
  by_cases hc : t.toInt ≤ i.toInt
  · refine Or.inl ⟨hc, pre _ (Go.step (o_step (ins := .if_icmp .ge 151) (len := 3) rfl ?_) Go.rf)⟩
    show kIc .ge 151 3 9 ls [cI t, cI i] h = _
    unfold kIc
    have hd : cDec .ge i t = true := decide_eq_true (Int32.le_iff_toInt_le.mpr hc)
    dsimp only
    rw [hd]
    rfl
  · refine Or.inr ⟨by omega, f i.toNatClampNeg, hJ.1 k hk _ _ _ g6 _ (by show i.toInt.toNat < 400; omega), ?_⟩
    have hd : cDec .ge i t = false := decide_eq_false (fun z => hc (Int32.le_iff_toInt_le.mp z))
    have s9 : cOne call eM6 none (9, ls, [cI t, cI i], h) = some (12, ls, [], h) := o_step (ins := .if_icmp .ge 151) (len := 3) rfl (by
      show kIc .ge 151 3 9 ls [cI t, cI i] h = _
      unfold kIc
      dsimp only
      rw [hd]
      rfl)
    have hin : inB i 400 = true := decide_eq_true (show vp_in i 400 from vp_in_iff.mpr ⟨hi, by omega⟩)
    have c0 : clk ((6, cI (f i.toNatClampNeg >>> (5 &&& 31))) :: ls.filter (ckI 6)) 0 = some (cR k) := clk_st rfl rfl rfl h0
    have c5 : clk ((6, cI (f i.toNatClampNeg >>> (5 &&& 31))) :: ls.filter (ckI 6)) 5 = some (cI i) := clk_st rfl rfl rfl h5
    exact pre _ (Go.step s9 (Go.step (o_aload_n (i := 0) rfl h0) (Go.step (o_get rfl rfl rfl g1 g2) (Go.step (o_iload (i := 5) rfl h5) (Go.step (o_iald rfl g6 hin) (Go.step (o_step rfl rfl) (Go.step (o_step rfl rfl) (Go.step (o_step rfl rfl) (Go.step (o_aload_n (i := 0) rfl c0) (Go.step (o_get rfl rfl rfl g1 g2) (Go.step (o_iload (i := 5) rfl c5) (Go.step (o_iald rfl g6 hin) (Go.step (o_step rfl rfl) (Go.step (o_step rfl rfl) (Go.step (o_step rfl rfl) Go.rf)))))))))))))))
theorem xs_at {ρ : List Int} {i : Nat} {a : Int32} (h : vV ρ (.inr (.inl (.inr (0, 1, i)))) (cI a)) : ρ[i]? = some a.toInt := by
  obtain ⟨r, h1, h2⟩ := vI_ev h
  rw [h1, h2]
  congr 1
  omega
theorem okB_at {ρ : List Int} {B : List eP} (hB : okB ρ B) {i : Nat} {b : eP} (hb : B[i]? = some b) {r : Int} (hr : ρ[i]? = some r) : b.1 ≤ r ∧ r ≤ b.2 := by
  obtain ⟨r', h1, h2⟩ := hB.2 i b hb
  rw [hr] at h1
  cases h1
  exact h2
theorem list4 {ρ : List Int} {B : List eP} (hB : okB ρ B) (hl : B.length = 4) : ∃ a b c d : Int, ρ = [a, b, c, d] := by
  have h1 := hB.1
  rw [hl] at h1
  match ρ, h1 with
  | [a, b, c, d], _ => exact ⟨a, b, c, d, rfl⟩
theorem and31 (x : Int32) : 0 ≤ (x &&& 31).toInt ∧ (x &&& 31).toInt ≤ 31 := and_r (x := x) (y := 31) (by decide)
theorem bnil : okB [] [] := ⟨rfl, fun i b h => by cases h⟩
theorem bcons {r : Int} {ρ : List Int} {b : eP} {B : List eP} (hr : bt2 b r) (h : okB ρ B) : okB (r :: ρ) (b :: B) := by
  refine ⟨by rw [List.length_cons, List.length_cons, h.1], fun i b' hi => ?_⟩
  cases i with
  | zero => cases hi; exact ⟨r, rfl, hr⟩
  | succ i => exact h.2 i b' hi
theorem vxs {ρ : List Int} {i : Nat} {a : Int32} (h : ρ[i]? = some a.toInt) : vV ρ (.inr (.inl (.inr (0, 1, i)))) (cI a) := ⟨a, rfl, xs_ok h⟩
theorem j6_o : Obl P9 jW 1 eM6 2 jO jLs j6 := by
  intro ρ0 hn h0 ρ S e1 hG hB hR hL hSt hF hK
  obtain ⟨Spc, Sls, Sst, Sh⟩ := S
  dsimp only [j6] at e1 hG hB hR hL hSt hF hK
  have e2 : Sst = [] := by
    cases Sst with
    | nil => rfl
    | cons _ _ => exact hSt.elim
  subst e1 e2
  obtain ⟨ra, rb, rc', rd, eρ⟩ := list4 hB rfl
  subst eρ
  obtain ⟨u0, c0, k, hk0, q0⟩ := hL (0, .inl [80, 85, 90, 95, 100, 105]) (List.mem_of_getElem? (i := 0) rfl)
  obtain ⟨u1, c1, a1, q1, v1⟩ := hL (1, .inr (.inl (.inr (0, 1, 0)))) (List.mem_of_getElem? (i := 1) rfl)
  obtain ⟨u2, c2, a2, q2, v2⟩ := hL (2, .inr (.inl (.inr (0, 1, 1)))) (List.mem_of_getElem? (i := 2) rfl)
  obtain ⟨u3, c3, k3, hk3, q3⟩ := hL (3, .inl [122]) (List.mem_of_getElem? (i := 3) rfl)
  obtain ⟨u4, c4, a4, q4, v4⟩ := hL (4, .inr (.inl (.inr (0, 1, 2)))) (List.mem_of_getElem? (i := 4) rfl)
  obtain ⟨u5, c5, a5, q5, v5⟩ := hL (5, .inr (.inl (.inr (0, 1, 3)))) (List.mem_of_getElem? (i := 5) rfl)
  subst q0 q1 q2 q3 q4 q5
  dsimp only at c0 c1 c2 c3 c4 c5
  have w1 : some ra = some a1.toInt := xs_at ⟨a1, rfl, v1⟩
  have w2 : some rb = some a2.toInt := xs_at ⟨a2, rfl, v2⟩
  have w4 : some rc' = some a4.toInt := xs_at ⟨a4, rfl, v4⟩
  have w5 : some rd = some a5.toInt := xs_at ⟨a5, rfl, v5⟩
  cases w1
  cases w2
  cases w4
  cases w5
  have b1 := okB_at hB (i := 0) rfl rfl
  have b2 := okB_at hB (i := 1) rfl rfl
  have b4 := okB_at hB (i := 2) rfl rfl
  have b5 := okB_at hB (i := 3) rfl rfl
  dsimp only at b1 b2 b4 b5
  have hpre : ρ0 = [a1.toInt, a2.toInt] := by
    obtain ⟨t, ht⟩ := hR.1
    match ρ0, hn, ht with
    | [x, y], _, ht => cases ht; rfl
  subst hpre
  rcases jd_pre (call := calF (Trm 1)) hG hK.2 hk0 c0 c2 c5 (by omega) (by omega) with ⟨hc, z⟩ | ⟨hc, x, hx, z⟩
  · refine ⟨_, z, hK, Or.inl ⟨jX, List.mem_of_getElem? (i := 2) rfl, [a1.toInt, a2.toInt, a4.toInt], rfl, hG, bcons ⟨b1.1, b1.2⟩ (bcons ⟨b2.1, b2.2⟩ (bcons ⟨b4.1, b4.2⟩ bnil)), ⟨⟨[a4.toInt], rfl⟩, (fun q hq => by cases hq)⟩, ?_, trivial, (fun q hq => by cases hq), ?_⟩⟩
    · intro q hq
      rcases List.mem_cons.mp hq with e | hq
      · subst e
        exact ⟨_, c0, k, hk0, rfl⟩
      · have e := List.mem_singleton.mp hq
        subst e
        exact ⟨_, c4, vxs rfl⟩
    · refine lt3_of (Or.inl ?_)
      show (0 : Int).toNat < (801 + -2 * a5.toInt).toNat
      omega
  · have r1 := and31 x
    have cs : ∀ (j : Nat) (v : cV), Nat.beq 6 j = false → Nat.beq j 6 = false → Nat.beq 7 j = false → Nat.beq j 7 = false → wide v = false → clk Sls j = some v → clk ((7, cI (x &&& 31)) :: ((6, cI (x >>> (5 &&& 31))) :: Sls.filter (ckI 6)).filter (ckI 7)) j = some v := fun j v h1 h2 h3 h4 h5 h6 => clk_st h3 h4 h5 (clk_st h1 h2 h5 h6)
    have d0 := cs 0 _ rfl rfl rfl rfl rfl c0
    have d1 := cs 1 _ rfl rfl rfl rfl rfl c1
    have d2 := cs 2 _ rfl rfl rfl rfl rfl c2
    have d3 := cs 3 _ rfl rfl rfl rfl rfl c3
    have d4 := cs 4 _ rfl rfl rfl rfl rfl c4
    have d5 := cs 5 _ rfl rfl rfl rfl rfl c5
    have d6 : clk ((7, cI (x &&& 31)) :: ((6, cI (x >>> (5 &&& 31))) :: Sls.filter (ckI 6)).filter (ckI 7)) 6 = some (cI (x >>> (5 &&& 31))) := clk_st rfl rfl rfl clk_hd
    have d7 : clk ((7, cI (x &&& 31)) :: ((6, cI (x >>> (5 &&& 31))) :: Sls.filter (ckI 6)).filter (ckI 7)) 7 = some (cI (x &&& 31)) := clk_hd
    have lt : (800 + -2 * a5.toInt).toNat < (801 + -2 * a5.toInt).toNat := by omega
    have hq5 : bt2 (0, 399) a5.toInt := ⟨by show (0 : Int) ≤ _; omega, by show _ ≤ (399 : Int); omega⟩
    by_cases h1 : (x &&& 31).toInt = 1
    · have hx1 : x &&& 31 = 1 := by rw [i32_of h1]; rfl
      have hv := hx hx1
      refine ⟨_, z, hK, Or.inl ⟨jB, List.mem_of_getElem? (i := 5) rfl, [a1.toInt, a2.toInt, a4.toInt, a5.toInt, (x >>> (5 &&& 31)).toInt], rfl, hG, bcons ⟨b1.1, b1.2⟩ (bcons ⟨b2.1, b2.2⟩ (bcons ⟨b4.1, b4.2⟩ (bcons hq5 (bcons ⟨hv.1, hv.2⟩ bnil)))), ⟨⟨_, rfl⟩, (fun q hq => by cases hq)⟩, ?_, trivial, (fun q hq => by cases hq), lt3_of (Or.inl lt)⟩⟩
      intro q hq
      simp only [jB, List.mem_cons, List.not_mem_nil, or_false] at hq
      rcases hq with rfl | rfl | rfl | rfl | rfl | rfl | rfl | rfl
      · exact ⟨_, d0, k, hk0, rfl⟩
      · exact ⟨_, d1, vxs rfl⟩
      · exact ⟨_, d2, vxs rfl⟩
      · exact ⟨_, d3, k3, hk3, rfl⟩
      · exact ⟨_, d4, vxs rfl⟩
      · exact ⟨_, d5, vxs rfl⟩
      · exact ⟨_, d6, vxs rfl⟩
      · exact ⟨_, d7, _, rfl, h1⟩
    · by_cases h2 : (x &&& 31).toInt = 0
      · refine ⟨_, z, hK, Or.inl ⟨jA0, List.mem_of_getElem? (i := 3) rfl, [a1.toInt, a2.toInt, a4.toInt, a5.toInt, (x >>> (5 &&& 31)).toInt], rfl, hG, bcons ⟨b1.1, b1.2⟩ (bcons ⟨b2.1, b2.2⟩ (bcons ⟨b4.1, b4.2⟩ (bcons hq5 (bcons (in_f32 _) bnil)))), ⟨⟨_, rfl⟩, (fun q hq => by cases hq)⟩, ?_, trivial, (fun q hq => by cases hq), lt3_of (Or.inl lt)⟩⟩
        intro q hq
        simp only [jA0, List.mem_cons, List.not_mem_nil, or_false] at hq
        rcases hq with rfl | rfl | rfl | rfl | rfl | rfl | rfl | rfl
        · exact ⟨_, d0, k, hk0, rfl⟩
        · exact ⟨_, d1, vxs rfl⟩
        · exact ⟨_, d2, vxs rfl⟩
        · exact ⟨_, d3, k3, hk3, rfl⟩
        · exact ⟨_, d4, vxs rfl⟩
        · exact ⟨_, d5, vxs rfl⟩
        · exact ⟨_, d6, vxs rfl⟩
        · exact ⟨_, d7, _, rfl, h2⟩
      · refine ⟨_, z, hK, Or.inl ⟨jA2, List.mem_of_getElem? (i := 4) rfl, [a1.toInt, a2.toInt, a4.toInt, a5.toInt, (x >>> (5 &&& 31)).toInt, (x &&& 31).toInt], rfl, hG, bcons ⟨b1.1, b1.2⟩ (bcons ⟨b2.1, b2.2⟩ (bcons ⟨b4.1, b4.2⟩ (bcons hq5 (bcons (in_f32 _) (bcons ⟨by show (2 : Int) ≤ _; omega, r1.2⟩ bnil))))), ⟨⟨_, rfl⟩, (fun q hq => by cases hq)⟩, ?_, trivial, (fun q hq => by cases hq), lt3_of (Or.inl lt)⟩⟩
        intro q hq
        simp only [jA2, List.mem_cons, List.not_mem_nil, or_false] at hq
        rcases hq with rfl | rfl | rfl | rfl | rfl | rfl | rfl | rfl
        · exact ⟨_, d0, k, hk0, rfl⟩
        · exact ⟨_, d1, vxs rfl⟩
        · exact ⟨_, d2, vxs rfl⟩
        · exact ⟨_, d3, k3, hk3, rfl⟩
        · exact ⟨_, d4, vxs rfl⟩
        · exact ⟨_, d5, vxs rfl⟩
        · exact ⟨_, d6, vxs rfl⟩
        · exact ⟨_, d7, vxs rfl⟩
theorem jC_ok : Con P9 2 jC := Con_of (mi := 6) (N := eM6) (d := 1) rfl (m := (.inl 1000, .inl 0, .inl 0)) (Ls := [j6, jX, jA0, jA2, jB]) rfl (fun l hl => by
  have hq : Qok P9 jW 1 (mkQ P39 jW [] 3000 1) := mkQ_ok J9_ok (d := 0) cs_nil 3000 1
  have hl : l ∈ jLs := hl
  unfold jLs at hl
  simp only [List.mem_cons, List.not_mem_nil, or_false] at hl
  rcases hl with rfl | rfl | rfl | rfl | rfl | rfl
  · exact chkL_ok J9_ok hq jE_k
  · exact j6_o
  · exact chkL_ok J9_ok hq jX_k
  · exact chkL_ok J9_ok hq jA0_k
  · exact chkL_ok J9_ok hq jA2_k
  · exact chkL_ok J9_ok hq jB_k)
