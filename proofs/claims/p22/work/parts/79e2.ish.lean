theorem list5 {ρ : List Int} {B : List eP} (hB : okB ρ B) (hl : B.length = 5) : ∃ a b c d e : Int, ρ = [a, b, c, d, e] := by
  have h1 := hB.1
  rw [hl] at h1
  match ρ, h1 with
  | [a, b, c, d, e], _ => exact ⟨a, b, c, d, e, rfl⟩
theorem h6_o : Obl P9 rkW 2 eM195 3 hO9 hLs h6 := by
  intro ρ0 hn h0 ρ S e1 hG hB hR hL hSt hF hK
  obtain ⟨Spc, Sls, Sst, Sh⟩ := S
  dsimp only [h6] at e1 hG hB hR hL hSt hF hK
  have e2 : Sst = [] := by
    cases Sst with
    | nil => rfl
    | cons _ _ => exact hSt.elim
  subst e1 e2
  obtain ⟨ra, rb, rc', rd, re, eρ⟩ := list5 hB rfl
  subst eρ
  have c0 := vR hL (j := 0) (List.mem_of_getElem? (i := 0) rfl)
  obtain ⟨a1, c1, v1⟩ := vL hL (List.mem_of_getElem? (i := 1) rfl) (rfl : [ra, rb, rc', rd, re][0]? = some ra)
  obtain ⟨a2, c2, v2⟩ := vL hL (List.mem_of_getElem? (i := 2) rfl) (rfl : [ra, rb, rc', rd, re][1]? = some rb)
  obtain ⟨a3, c3, v3⟩ := vL hL (List.mem_of_getElem? (i := 3) rfl) (rfl : [ra, rb, rc', rd, re][2]? = some rc')
  obtain ⟨a4, c4, v4⟩ := vL hL (List.mem_of_getElem? (i := 4) rfl) (rfl : [ra, rb, rc', rd, re][3]? = some rd)
  obtain ⟨a5, c5, v5⟩ := vL hL (List.mem_of_getElem? (i := 5) rfl) (rfl : [ra, rb, rc', rd, re][4]? = some re)
  rw [Int.zero_add] at v1 v2 v3 v4 v5
  subst v1 v2 v3 v4 v5
  have b1 := okB_at hB (i := 0) rfl rfl
  have b2 := okB_at hB (i := 1) rfl rfl
  have b3 := okB_at hB (i := 2) rfl rfl
  have b4 := okB_at hB (i := 3) rfl rfl
  have b5 := okB_at hB (i := 4) rfl rfl
  dsimp only at b1 b2 b3 b4 b5
  have hpre : ρ0 = [a1.toInt, a2.toInt, a3.toInt] := by
    obtain ⟨t, ht⟩ := hR.1
    match ρ0, hn, ht with
    | [x, y, z], _, ht => cases ht; rfl
  subst hpre
  have hq5 : a5.toInt ≤ 11 → bt2 (0, 11) a5.toInt := fun h => ⟨by show (0 : Int) ≤ _; omega, h⟩
  rcases ih_pre hG hK.2 c0 c1 c2 c4 c5 b1 b5 with z | ⟨h11, x, z⟩ | ⟨h11, x, r, h2, z, z2, z3, z4⟩
  · refine ⟨_, z, hK, Or.inl ⟨h81, List.mem_of_getElem? (i := 2) rfl, [a1.toInt, a2.toInt, a3.toInt, a4.toInt], rfl, hG, bcons ⟨b1.1, b1.2⟩ (bcons ⟨b2.1, b2.2⟩ (bcons ⟨b3.1, b3.2⟩ (bcons ⟨b4.1, b4.2⟩ bnil))), ⟨⟨[a4.toInt], rfl⟩, (fun q hq => by cases hq)⟩, ?_, trivial, (fun q hq => by cases hq), ?_⟩⟩
    · intro q hq
      simp only [h81, List.mem_cons, List.not_mem_nil, or_false] at hq
      rcases hq with rfl | rfl
      · exact ⟨_, c3, vxs rfl⟩
      · exact ⟨_, c4, vxs rfl⟩
    · refine lt3_of (Or.inl ?_)
      show (0 : Int).toNat < (25 + -2 * a5.toInt).toNat
      omega
  · have cs : ∀ (j : Nat) (v : cV), Nat.beq 6 j = false → Nat.beq j 6 = false → wide v = false → clk Sls j = some v → clk ((6, cI x) :: Sls.filter (ckI 6)) j = some v := fun j v g1 g2 g3 g4 => clk_st g1 g2 g3 g4
    refine ⟨_, z, hK, Or.inl ⟨h75, List.mem_of_getElem? (i := 3) rfl, [a1.toInt, a2.toInt, a3.toInt, a4.toInt, a5.toInt], rfl, hG, bcons ⟨b1.1, b1.2⟩ (bcons ⟨b2.1, b2.2⟩ (bcons ⟨b3.1, b3.2⟩ (bcons ⟨b4.1, b4.2⟩ (bcons (hq5 h11) bnil)))), ⟨⟨_, rfl⟩, (fun q hq => by cases hq)⟩, ?_, trivial, (fun q hq => by cases hq), ?_⟩⟩
    · intro q hq
      simp only [h75, List.mem_cons, List.not_mem_nil, or_false] at hq
      rcases hq with rfl | rfl | rfl | rfl | rfl | rfl
      · exact ⟨_, cs 0 _ rfl rfl rfl c0, 170, List.mem_singleton.mpr rfl, rfl⟩
      · exact ⟨_, cs 1 _ rfl rfl rfl c1, vxs rfl⟩
      · exact ⟨_, cs 2 _ rfl rfl rfl c2, vxs rfl⟩
      · exact ⟨_, cs 3 _ rfl rfl rfl c3, vxs rfl⟩
      · exact ⟨_, cs 4 _ rfl rfl rfl c4, vxs rfl⟩
      · exact ⟨_, cs 5 _ rfl rfl rfl c5, vxs rfl⟩
    · refine lt3_of (Or.inl ?_)
      show (24 + -2 * a5.toInt).toNat < (25 + -2 * a5.toInt).toNat
      omega
  · have cs : ∀ (j : Nat) (v : cV), Nat.beq 6 j = false → Nat.beq j 6 = false → Nat.beq 4 j = false → Nat.beq j 4 = false → wide v = false → clk Sls j = some v → clk ((4, cI (Int32.ofInt 1)) :: ((6, cI x) :: Sls.filter (ckI 6)).filter (ckI 4)) j = some v := fun j v g1 g2 g3 g4 g5 g6 => clk_st g3 g4 g5 (clk_st g1 g2 g5 g6)
    have w4 : clk ((4, cI (Int32.ofInt 1)) :: ((6, cI x) :: Sls.filter (ckI 6)).filter (ckI 4)) 4 = some (cI (Int32.ofInt 1)) := clk_hd
    refine ⟨_, z, ⟨Fr.tr sub_rk hK.1 z3, z4⟩, Or.inl ⟨h68, List.mem_of_getElem? (i := 4) rfl, [a1.toInt, a2.toInt, a3.toInt, a5.toInt, r.toInt], rfl, z2, bcons ⟨b1.1, b1.2⟩ (bcons ⟨b2.1, b2.2⟩ (bcons ⟨b3.1, b3.2⟩ (bcons (hq5 h11) (bcons (in_f64 r) bnil)))), ⟨⟨_, rfl⟩, (fun q hq => by cases hq)⟩, ?_, ⟨⟨r, rfl, xs_ok rfl⟩, trivial⟩, (fun q hq => by cases hq), ?_⟩⟩
    · intro q hq
      simp only [h68, List.mem_cons, List.not_mem_nil, or_false] at hq
      rcases hq with rfl | rfl | rfl | rfl | rfl | rfl
      · exact ⟨_, cs 0 _ rfl rfl rfl rfl rfl c0, 170, List.mem_singleton.mpr rfl, rfl⟩
      · exact ⟨_, cs 1 _ rfl rfl rfl rfl rfl c1, vxs rfl⟩
      · exact ⟨_, cs 2 _ rfl rfl rfl rfl rfl c2, vxs rfl⟩
      · exact ⟨_, cs 3 _ rfl rfl rfl rfl rfl c3, vxs rfl⟩
      · exact ⟨_, w4, _, rfl, rfl⟩
      · exact ⟨_, cs 5 _ rfl rfl rfl rfl rfl c5, vxs rfl⟩
    · refine lt3_of (Or.inl ?_)
      show (24 + -2 * a5.toInt).toNat < (25 + -2 * a5.toInt).toNat
      omega
theorem hCN_ok : Con P9 3 hCN := Con_of (mi := 195) (N := eM195) (d := 2) rfl (m := (.inl 100, .inl 0, .inl 0)) (Ls := [h6, h81, h75, h68]) rfl (fun l hl => by
  have hq : Qok P9 rkW 2 (mkQ P39 rkW [] 3000 0) := Qok_le (by decide) (mkQ_ok J9_ok (d := 0) cs_nil 3000 0)
  have hl : l ∈ hLs := hl
  unfold hLs at hl
  simp only [List.mem_cons, List.not_mem_nil, or_false] at hl
  rcases hl with rfl | rfl | rfl | rfl | rfl
  · exact chkL_ok J9_ok hq hE_k
  · exact h6_o
  · exact chkL_ok J9_ok hq h81_k
  · exact chkL_ok J9_ok hq h75_k
  · exact chkL_ok J9_ok hq h68_k)
