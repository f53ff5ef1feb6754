/-! BY HAND, 6: the reference's images: copies of a row -/
abbrev saST : List sG := [(80, 3, 30, (0, 9)), (81, 3, 30, (0, 9)), (82, 3, 30, (0, 99)), (170, 3, 20, (0, 9)), (171, 3, 20, (0, 9)), (172, 3, 20, (0, 99)), (0, 1, 1, (0, 30)), (1, 1, 2, (0, 12)), (3, 1, 1, (0, 20)), (4, 1, 2, (0, 1023))]
abbrev shS (k : Nat) (q : sG) : sG := (q.1 + 230 * k, q.2.1, q.2.2.1, q.2.2.2)
abbrev imST : List sG := [0, 1, 2, 3].flatMap (fun k => saST.map (shS k))
set_option maxRecDepth 8000 in
theorem sa_T : TT[183]? = some (.inr (.inl (0, 230, (-2147483648, 2147483647), saST))) := rfl
set_option maxRecDepth 8000 in
theorem im_T : TT[203]? = some (.inr (.inl (0, 920, (-2147483648, 2147483647), imST))) := rfl
set_option maxRecDepth 8000 in
theorem sa_lt {q : sG} (hq : q ∈ saST) {j : Nat} (hj : inS q j) : j < 230 := by
  obtain ⟨i, h1, h2⟩ := hj
  simp only [List.mem_cons, List.not_mem_nil, or_false] at hq
  rcases hq with rfl | rfl | rfl | rfl | rfl | rfl | rfl | rfl | rfl | rfl <;> (dsimp only at h1 h2; omega)
/-- a place of an image is one of the row -/
theorem im_in {q : sG} (hq : q ∈ imST) {j i : Nat} (hi : i < 230) (hs : inS q (230 * j + i)) : ∃ s ∈ saST, inS s i ∧ q.2.2.2 = s.2.2.2 := by
  obtain ⟨k, hk, h1⟩ := List.mem_flatMap.mp hq
  obtain ⟨s, hs1, h2⟩ := List.mem_map.mp h1
  subst h2
  obtain ⟨t, t1, t2⟩ := hs
  dsimp only at t1 t2
  have hlt := sa_lt hs1 (j := s.1 + s.2.1 * t) ⟨t, t1, rfl⟩
  have hjk : j = k := by omega
  subst hjk
  exact ⟨s, hs1, ⟨t, t1, by omega⟩, rfl⟩
theorem in_im {k : Nat} (hk : k < 4) {s : sG} (hs : s ∈ saST) : shS k s ∈ imST := List.mem_flatMap.mpr ⟨k, by
  have : k = 0 ∨ k = 1 ∨ k = 2 ∨ k = 3 := by omega
  rcases this with rfl | rfl | rfl | rfl <;> decide, List.mem_map.mpr ⟨s, hs, rfl⟩⟩
theorem HG_sa {h : List cC} (hG : HG TT [] h) : ∃ f : Nat → Int32, h[183]? = some (.inr (.inl (0, 230, f))) ∧ rI 230 (-2147483648, 2147483647) saST f := by
  obtain ⟨c, h1, f, h2, h3⟩ := hG.2 183 _ sa_T
  exact ⟨f, by rw [h1, h2], h3⟩
set_option maxRecDepth 8000 in
theorem HG_im {h : List cC} (hG : HG TT [] h) : ∃ g : Nat → Int32, h[203]? = some (.inr (.inl (0, 920, g))) ∧ rI 920 (-2147483648, 2147483647) imST g := by
  obtain ⟨c, h1, f, h2, h3⟩ := hG.2 203 _ im_T
  exact ⟨f, by rw [h1, h2], h3⟩
theorem HG_imset {h : List cC} (hG : HG TT [] h) {f g : Nat → Int32} (hf : rI 230 (-2147483648, 2147483647) saST f) (hg : h[203]? = some (.inr (.inl (0, 920, g)))) {j i : Nat} (hi : i < 230) : HG TT [] (h.set 203 (.inr (.inl (0, 920, upd g (230 * j + i) (f i))))) := by
  refine HG_putI hG im_T hg (i := 230 * j + i) (x := f i) (in_f32 _) (fun q hq hs => ?_) (fun m => ?_)
  · obtain ⟨s, s1, s2, s3⟩ := im_in hq hi hs
    rw [s3]
    exact (hf i hi).2 s s1 s2
  · by_cases hm : m = 230 * j + i
    · exact Or.inr ⟨hm, by rw [hm, pk_us]⟩
    · exact Or.inl (pk_un hm)
theorem HG_saset {h : List cC} (hG : HG TT [] h) {f g : Nat → Int32} (hg : rI 920 (-2147483648, 2147483647) imST g) (hf : h[183]? = some (.inr (.inl (0, 230, f)))) {j i : Nat} (hj : j < 4) (hi : i < 230) : HG TT [] (h.set 183 (.inr (.inl (0, 230, upd f i (g (230 * j + i)))))) := by
  refine HG_putI hG sa_T hf (i := i) (x := g (230 * j + i)) (in_f32 _) (fun q hq hs => ?_) (fun m => ?_)
  · obtain ⟨t, t1, t2⟩ := hs
    exact (hg (230 * j + i) (by omega)).2 (shS j q) (in_im hj hq) ⟨t, t1, by show 230 * j + i = q.1 + 230 * j + q.2.1 * t; omega⟩
  · by_cases hm : m = i
    · exact Or.inr ⟨hm, by rw [hm, pk_us]⟩
    · exact Or.inl (pk_un hm)

/-- the loop of an image -/
theorem c230 : ((Int16.ofInt 230).toInt32).toInt = 230 := rfl
theorem idx230 {k i : Int32} (hk : 0 ≤ k.toInt ∧ k.toInt < 4) (hi : 0 ≤ i.toInt ∧ i.toInt < 230) : ((Int16.ofInt 230).toInt32 * k + i).toInt = 230 * k.toInt + i.toInt := by
  have m1 : ((Int16.ofInt 230).toInt32 * k).toInt = 230 * k.toInt := by
    rw [Int32.toInt_mul, c230]
    exact bmod32 (by omega) (by omega)
  rw [Int32.toInt_add, m1]
  exact bmod32 (by omega) (by omega)
theorem inc1 {i : Int32} (h : 0 ≤ i.toInt ∧ i.toInt < 230) : (i + Int32.ofInt 1).toInt = i.toInt + 1 := by
  have e1 : (Int32.ofInt 1).toInt = 1 := rfl
  rw [Int32.toInt_add, e1]
  exact bmod32 (by omega) (by omega)
def clk3 (ls : List (Nat × cV)) (k i : Int32) : Prop := clk ls 0 = some (cR 170) ∧ clk ls 1 = some (cI k) ∧ clk ls 2 = some (cI i)
theorem im_loop {call : cCl} {k : Int32} (hk : 0 ≤ k.toInt ∧ k.toInt < 4) {f : Nat → Int32} (hf : rI 230 (-2147483648, 2147483647) saST f) : ∀ (n : Nat) (i : Int32) (ls : List (Nat × cV)) (h : List cC) (g : Nat → Int32), HG TT [] h → h[183]? = some (.inr (.inl (0, 230, f))) → h[203]? = some (.inr (.inl (0, 920, g))) → clk3 ls k i → 0 ≤ i.toInt → i.toInt + (n : Int) = 230 → ∃ (ls2 : List (Nat × cV)) (g2 : Nat → Int32), Go call eM188 none (23, ls, [], h) (54, ls2, [], h.set 203 (.inr (.inl (0, 920, g2)))) ∧ HG TT [] (h.set 203 (.inr (.inl (0, 920, g2)))) ∧ clk ls2 0 = some (cR 170) ∧ (∀ m : Nat, (i.toInt.toNat ≤ m → m < 230 → g2 (230 * k.toInt.toNat + m) = f m)) ∧ ∀ m : Nat, (∀ p : Nat, i.toInt.toNat ≤ p → p < 230 → m ≠ 230 * k.toInt.toNat + p) → g2 m = g m
  | 0, i, ls, h, g, hG, h1, h2, hc, hi, hn => by
    obtain ⟨c0, c1, c2⟩ := hc
    have hset : h.set 203 (.inr (.inl (0, 920, g))) = h := by
      apply List.ext_getElem?
      intro j
      by_cases e : j = 203
      · subst e
        rw [List.getElem?_set_self (List.getElem?_eq_some_iff.mp h2).1, h2]
      · rw [List.getElem?_set_ne (Ne.symm e)]
    refine ⟨ls, g, ?_, by rw [hset]; exact hG, c0, fun m m1 m2 => by omega, fun m _ => rfl⟩
    rw [hset]
    have s27 : cOne call eM188 none (27, ls, [cI ((Int16.ofInt 230).toInt32), cI i], h) = some (54, ls, [], h) := o_step (ins := .if_icmp .ge 27) (len := 3) rfl (by
      show kIc .ge 27 3 27 ls [cI ((Int16.ofInt 230).toInt32), cI i] h = _
      unfold kIc
      have hd : cDec .ge i ((Int16.ofInt 230).toInt32) = true := decide_eq_true (Int32.le_iff_toInt_le.mpr (by rw [c230]; omega))
      dsimp only
      rw [hd]
      rfl)
    exact Go.step (o_iload_n (i := 2) rfl c2) (Go.step (o_step rfl rfl) (Go.step s27 Go.rf))
  | n + 1, i, ls, h, g, hG, h1, h2, hc, hi, hn => by
    obtain ⟨c0, c1, c2⟩ := hc
    have hi2 : 0 ≤ i.toInt ∧ i.toInt < 230 := ⟨hi, by omega⟩
    obtain ⟨vs, g1, g2⟩ := mod_at hG (j := 26) (k := 183) rfl
    obtain ⟨vs', g3, g4⟩ := mod_at hG (j := 49) (k := 203) rfl
    rw [g1] at g3
    cases g3
    have s27 : cOne call eM188 none (27, ls, [cI ((Int16.ofInt 230).toInt32), cI i], h) = some (30, ls, [], h) := o_step (ins := .if_icmp .ge 27) (len := 3) rfl (by
      show kIc .ge 27 3 27 ls [cI ((Int16.ofInt 230).toInt32), cI i] h = _
      unfold kIc
      have hd : cDec .ge i ((Int16.ofInt 230).toInt32) = false := decide_eq_false (fun z => by have := Int32.le_iff_toInt_le.mp z; rw [c230] at this; omega)
      dsimp only
      rw [hd]
      rfl)
    have hx := idx230 hk hi2
    have in1 : inB i 230 = true := decide_eq_true (show vp_in i 230 from vp_in_iff.mpr ⟨by omega, by omega⟩)
    have in2 : inB ((Int16.ofInt 230).toInt32 * k + i) 920 = true := decide_eq_true (show vp_in _ 920 from vp_in_iff.mpr ⟨by omega, by omega⟩)
    have hidx : ((Int16.ofInt 230).toInt32 * k + i).toNatClampNeg = 230 * k.toInt.toNat + i.toInt.toNat := by
      show ((Int16.ofInt 230).toInt32 * k + i).toInt.toNat = _
      rw [hx]
      omega
    have sst : cOne call eM188 none (47, ls, [cI (f i.toNatClampNeg), cI ((Int16.ofInt 230).toInt32 * k + i), cR 203], h) = some (48, ls, [], h.set 203 (.inr (.inl (0, 920, upd g (230 * k.toInt.toNat + i.toInt.toNat) (f i.toInt.toNat))))) := by
      have := o_iast (call := call) (M := eM188) (sc := none) (ls := ls) (st := []) (pc := 47) (x := f i.toNatClampNeg) rfl h2 in2
      rw [hidx] at this
      exact this
    have sinc : ∀ hh : List cC, cOne call eM188 none (48, ls, [], hh) = some (51, (2, cI (i + Int32.ofInt 1)) :: ls.filter (ckI 2), [], hh) := fun hh => o_step (ins := .iinc 2 1) (len := 3) rfl (by
      show kInc _ 2 1 3 48 ls [] hh = _
      unfold kInc
      rw [c2]
      rfl)
    have hG2 := HG_imset hG hf h2 (j := k.toInt.toNat) (i := i.toInt.toNat) (by omega)
    have hi3 := inc1 hi2
    obtain ⟨ls2, gg, z1, z2, z3, z4, z5⟩ := im_loop (call := call) hk hf n (i + Int32.ofInt 1) ((2, cI (i + Int32.ofInt 1)) :: ls.filter (ckI 2)) (h.set 203 (.inr (.inl (0, 920, upd g (230 * k.toInt.toNat + i.toInt.toNat) (f i.toInt.toNat))))) (upd g (230 * k.toInt.toNat + i.toInt.toNat) (f i.toInt.toNat)) hG2 (by rw [List.getElem?_set_ne (by decide)]; exact h1) (List.getElem?_set_self (List.getElem?_eq_some_iff.mp h2).1) ⟨clk_st rfl rfl rfl c0, clk_st rfl rfl rfl c1, clk_hd⟩ (by omega) (by omega)
    rw [List.set_set] at z1 z2
    refine ⟨ls2, gg, Go.step (o_iload_n (i := 2) rfl c2) (Go.step (o_step rfl rfl) (Go.step s27 (Go.step (o_aload_n (i := 0) rfl c0) (Go.step (o_get rfl rfl rfl g1 g4) (Go.step (o_step rfl rfl) (Go.step (o_iload_n (i := 1) rfl c1) (Go.step (o_step rfl rfl) (Go.step (o_iload_n (i := 2) rfl c2) (Go.step (o_step rfl rfl) (Go.step (o_aload_n (i := 0) rfl c0) (Go.step (o_get rfl rfl rfl g1 g2) (Go.step (o_iload_n (i := 2) rfl c2) (Go.step (o_iald rfl h1 in1) (Go.step sst (Go.step (sinc _) (Go.step (o_step rfl rfl) z1)))))))))))))))), z2, z3, fun m m1 m2 => ?_, fun m hm => ?_⟩
    · by_cases e : m = i.toInt.toNat
      · subst e
        rw [z5 _ (fun p p1 p2 => by omega), pk_us]
      · exact z4 m (by omega) m2
    · rw [z5 m (fun p p1 p2 => hm p (by omega) p2), pk_un (hm _ (Nat.le_refl _) (by omega))]
