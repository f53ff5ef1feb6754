/-! BY HAND, 4: the reference reckons a clause -/
theorem Obl_one {P : aP} {W : aW} {d : Nat} {M : eM} {n0 : Nat} {t A : aL} (hO : Obl P W d M n0 [] [t] A) {ρ : List Int} (hn : ρ.length = n0) {S : cS} (e1 : S.1 = A.1.1) (hG : HG P.1 [] S.2.2.2) (hB : okB ρ A.1.2.2.2.2.1) (hR : ∀ q ∈ A.1.2.2.2.2.2, okR1 ρ S.2.2.2 q) (hL : okL ρ A.1.2.1 S.2.1) (hSt : okS ρ A.1.2.2.1 S.2.2.1) (hF : okF ρ A.1.2.2.2.1 S.2.2.2) (hJ : P.2.2.2 S.2.2.2) : ∃ (S2 : cS) (ρ2 : List Int), Go (calF (Trm d)) M none S S2 ∧ Fr P.2.1 W S.2.2.2 S2.2.2.2 ∧ P.2.2.2 S2.2.2.2 ∧ S2.1 = t.1.1 ∧ HG P.1 [] S2.2.2.2 ∧ okB ρ2 t.1.2.2.2.2.1 ∧ ρ <+: ρ2 ∧ okL ρ2 t.1.2.1 S2.2.1 ∧ okS ρ2 t.1.2.2.1 S2.2.2.1 ∧ okF ρ2 t.1.2.2.2.1 S2.2.2.2 := by
  obtain ⟨S2, g1, g2, g3⟩ := hO ρ hn S.2.2.2 ρ S e1 hG hB ⟨List.prefix_rfl, hR⟩ hL hSt hF ⟨Fr.rf, hJ⟩
  rcases g3 with ⟨l2, q1, ρ2, q2, q3, q4, q5, q6, q7, q8, q9⟩ | ⟨r, _, _, o, o1, _⟩
  · have e := List.mem_singleton.mp q1
    subst e
    exact ⟨S2, ρ2, g1, g2.1, g2.2, q2, q3, q4, q5.1, q6, q7, q8⟩
  · cases o1
/-- a local read off -/
theorem vL {ρ : List Int} {als : List (Nat × aV)} {ls : List (Nat × cV)} (hL : okL ρ als ls) {j i : Nat} {c : Int} (hm : (j, .inr (.inl (.inr (c, 1, i)))) ∈ als) {z : Int} (hz : ρ[i]? = some z) : ∃ x : Int32, clk ls j = some (cI x) ∧ x.toInt = c + z := by
  obtain ⟨v, h1, x, h2, r, h3, h4⟩ := hL _ hm
  subst h2
  rw [hz] at h3
  cases h3
  exact ⟨x, h1, by omega⟩
theorem vR {ρ : List Int} {als : List (Nat × aV)} {ls : List (Nat × cV)} (hL : okL ρ als ls) {j k : Nat} (hm : (j, .inl [k]) ∈ als) : clk ls j = some (cR k) := by
  obtain ⟨v, h1, k', h2, h3⟩ := hL _ hm
  rw [h1, h3, List.mem_singleton.mp h2]
theorem vF {ρ : List Int} {F : List (Nat × Nat × aV)} {h : List cC} (hF : okF ρ F h) {k j i : Nat} {c : Int} (hm : (k, j, .inr (.inl (.inr (c, 1, i)))) ∈ F) {z : Int} (hz : ρ[i]? = some z) : ∃ (ci : Nat) (vs : List cV) (x : Int32), h[k]? = some (.inl (ci, vs)) ∧ vs[j]? = some (cI x) ∧ x.toInt = c + z := by
  obtain ⟨ci, vs, v, h1, h2, x, h3, r, h4, h5⟩ := hF _ hm
  subst h3
  rw [hz] at h4
  cases h4
  exact ⟨ci, vs, x, h1, h2, by omega⟩
/-- a row that is not written stays -/
theorem Fr_row {PT : List (Nat × sG)} {W : aW} {h h2 : List cC} (hf : Fr PT W h h2) {k kd n : Nat} {f : Nat → Int32} (hw : inW W k 1000 = false) (hk : h[k]? = some (.inr (.inl (kd, n, f)))) : h2[k]? = some (.inr (.inl (kd, n, f))) := by
  obtain ⟨c2, h1, f2, h3, h4, _⟩ := hf k _ hk
  rw [h1, h3, h4 hw]
/-- the reference's cell -/
theorem mod_t : ∃ ts : List fT, TT[170]? = some (.inl (12, ts)) := ⟨_, rfl⟩
def mT (j : Nat) : Option fT := match (TT[170]? : Option tT) with
  | some (.inl q) => q.2[j]?
  | _ => none
theorem mod_at {h : List cC} (hG : HG TT [] h) {j : Nat} {k : Nat} (hj : mT j = some (.inr (.inr (.inr (.inl [k]))))) : ∃ vs : List cV, h[170]? = some (.inl (12, vs)) ∧ vs[j]? = some (cR k) := by
  obtain ⟨ts, ht⟩ := mod_t
  unfold mT at hj
  rw [ht] at hj
  obtain ⟨vs, v, h1, h2, k', h3, h4⟩ := HG_get hG ht hj
  exact ⟨vs, h1, by rw [h2, h4, List.mem_singleton.mp h3]⟩
theorem and15 (x : Int32) : 0 ≤ (x &&& 15).toInt ∧ (x &&& 15).toInt ≤ 15 := and_r (x := x) (y := 15) (by decide)
def At8 (ls : List (Nat × cV)) (h : List cC) (t b e i d : Int32) : Prop := clk ls 0 = some (cR 170) ∧ clk ls 1 = some (cI t) ∧ clk ls 2 = some (cI b) ∧ clk ls 3 = some (cI e) ∧ clk ls 4 = some (cI i) ∧ ∃ (ci : Nat) (vs : List cV), h[170]? = some (.inl (ci, vs)) ∧ vs[24]? = some (cI d)
theorem rk_pre {call : cCl} {ls : List (Nat × cV)} {h : List cC} (hG : HG TT [] h) {f : Nat → Int32} (hs : h[172]? = some (.inr (.inl (0, 2400, f)))) {t b e i d : Int32} (ha : At8 ls h t b e i d) (ht : 0 ≤ t.toInt ∧ t.toInt ≤ 5) (hi : 0 ≤ i.toInt) (hie : i.toInt < e.toInt) (he : e.toInt ≤ 400) : ∃ x : Int32, x = f (400 * t.toInt.toNat + i.toInt.toNat) ∧ Go call eM229 none (8, ls, [], h) (49, (6, cI (x >>> (4 &&& 31))) :: ((5, cI (x &&& 15)) :: ls.filter (ckI 5)).filter (ckI 6), [], h) := by
  obtain ⟨c0, c1, c2, c3, c4, _⟩ := ha
  obtain ⟨vs, g1, g2⟩ := mod_at hG (j := 3) (k := 172) rfl
  have hd : cDec .ge i e = false := decide_eq_false (fun z => by have := Int32.le_iff_toInt_le.mp z; omega)
  have s11 : cOne call eM229 none (11, ls, [cI e, cI i], h) = some (14, ls, [], h) := o_step (ins := .if_icmp .ge 124) (len := 3) rfl (by
    show kIc .ge 124 3 11 ls [cI e, cI i] h = _
    unfold kIc
    dsimp only
    rw [hd]
    rfl)
  have e400 : ((Int16.ofInt 400).toInt32).toInt = 400 := rfl
  have m1 : ((Int16.ofInt 400).toInt32 * t).toInt = 400 * t.toInt := by
    rw [Int32.toInt_mul, e400]
    exact bmod32 (by omega) (by omega)
  have m2 : ((Int16.ofInt 400).toInt32 * t + i).toInt = 400 * t.toInt + i.toInt := by
    rw [Int32.toInt_add, m1]
    exact bmod32 (by omega) (by omega)
  have hin : inB ((Int16.ofInt 400).toInt32 * t + i) 2400 = true := decide_eq_true (show vp_in _ 2400 from vp_in_iff.mpr ⟨by omega, by omega⟩)
  have hx : f ((Int16.ofInt 400).toInt32 * t + i).toNatClampNeg = f (400 * t.toInt.toNat + i.toInt.toNat) := by
    congr 1
    show ((Int16.ofInt 400).toInt32 * t + i).toInt.toNat = _
    rw [m2]
    omega
  refine ⟨f (400 * t.toInt.toNat + i.toInt.toNat), rfl, ?_⟩
  rw [← hx]
  generalize hq : f ((Int16.ofInt 400).toInt32 * t + i).toNatClampNeg = x
  have d0 : clk ((5, cI (x &&& 15)) :: ls.filter (ckI 5)) 0 = some (cR 170) := clk_st rfl rfl rfl c0
  have d1 : clk ((5, cI (x &&& 15)) :: ls.filter (ckI 5)) 1 = some (cI t) := clk_st rfl rfl rfl c1
  have d4 : clk ((5, cI (x &&& 15)) :: ls.filter (ckI 5)) 4 = some (cI i) := clk_st rfl rfl rfl c4
  have ld : ∀ (pc : Nat) (ls : List (Nat × cV)), fnd (m_il eM229) pc = some (.iaload, 1) → cOne call eM229 none (pc, ls, [cI ((Int16.ofInt 400).toInt32 * t + i), cR 172], h) = some (pc + 1, ls, [cI x], h) := fun pc ls hf => by
    have := o_iald (call := call) (sc := none) (ls := ls) (st := []) hf hs hin
    rw [hq] at this
    exact this
  exact Go.step (o_iload (i := 4) rfl c4) (Go.step (o_iload_n (i := 3) rfl c3) (Go.step s11 (Go.step (o_aload_n (i := 0) rfl c0) (Go.step (o_get rfl rfl rfl g1 g2) (Go.step (o_step rfl rfl) (Go.step (o_iload_n (i := 1) rfl c1) (Go.step (o_step rfl rfl) (Go.step (o_iload (i := 4) rfl c4) (Go.step (o_step rfl rfl) (Go.step (ld 26 _ rfl) (Go.step (o_step rfl rfl) (Go.step (o_step rfl rfl) (Go.step (o_step rfl rfl) (Go.step (o_aload_n (i := 0) rfl d0) (Go.step (o_get rfl rfl rfl g1 g2) (Go.step (o_step rfl rfl) (Go.step (o_iload_n (i := 1) rfl d1) (Go.step (o_step rfl rfl) (Go.step (o_iload (i := 4) rfl d4) (Go.step (o_step rfl rfl) (Go.step (ld 44 _ rfl) (Go.step (o_step rfl rfl) (Go.step (o_step rfl rfl) (Go.step (o_step rfl rfl) Go.rf))))))))))))))))))))))))

/-- the state at the place 49, for the checker -/
theorem rk_ls {ls : List (Nat × cV)} {h : List cC} {t b e i d x : Int32} (ha : At8 ls h t b e i d) {j : Nat} {v : cV} (hw : wide v = false) (h5 : Nat.beq 5 j = false) (h5' : Nat.beq j 5 = false) (h6 : Nat.beq 6 j = false) (h6' : Nat.beq j 6 = false) (hc : clk ls j = some v) : clk ((6, cI (x >>> (4 &&& 31))) :: ((5, cI (x &&& 15)) :: ls.filter (ckI 5)).filter (ckI 6)) j = some v := clk_st h6 h6' hw (clk_st h5 h5' hw hc)
theorem rk_q : Qok P9 rkW 1 (mkQ P39 rkW [] 3000 1) := mkQ_ok J9_ok (d := 0) cs_nil 3000 1
theorem At_of {ρ : List Int} {h : List cC} {ls : List (Nat × cV)} {t b e i d : Int32} {c1 c2 : Int} {ex : List Int} (hp : [t.toInt, b.toInt, e.toInt, i.toInt, d.toInt] ++ ex <+: ρ) (hL : okL ρ [(0, .inl [170]), (1, .inr (.inl (.inr (0, 1, 0)))), (2, .inr (.inl (.inr (0, 1, 1)))), (3, .inr (.inl (.inr (0, 1, 2)))), (4, .inr (.inl (.inr (c1, 1, 3))))] ls) (hF : okF ρ [(170, 24, .inr (.inl (.inr (c2, 1, 4))))] h) : ∃ i2 d2 : Int32, At8 ls h t b e i2 d2 ∧ i2.toInt = c1 + i.toInt ∧ d2.toInt = c2 + d.toInt := by
  have r0 : ρ[0]? = some t.toInt := at_mono hp rfl
  have r1 : ρ[1]? = some b.toInt := at_mono hp rfl
  have r2 : ρ[2]? = some e.toInt := at_mono hp rfl
  have r3 : ρ[3]? = some i.toInt := at_mono hp rfl
  have r4 : ρ[4]? = some d.toInt := at_mono hp rfl
  have k0 := vR hL (j := 0) (List.mem_of_getElem? (i := 0) rfl)
  obtain ⟨x1, k1, y1⟩ := vL hL (List.mem_of_getElem? (i := 1) rfl) r0
  obtain ⟨x2, k2, y2⟩ := vL hL (List.mem_of_getElem? (i := 2) rfl) r1
  obtain ⟨x3, k3, y3⟩ := vL hL (List.mem_of_getElem? (i := 3) rfl) r2
  obtain ⟨x4, k4, y4⟩ := vL hL (List.mem_of_getElem? (i := 4) rfl) r3
  obtain ⟨ci, vs, x5, k5, k6, y5⟩ := vF hF (List.mem_of_getElem? (i := 0) rfl) r4
  have e1 : x1 = t := Int32.toInt_inj.mp (by omega)
  have e2 : x2 = b := Int32.toInt_inj.mp (by omega)
  have e3 : x3 = e := Int32.toInt_inj.mp (by omega)
  subst e1 e2 e3
  exact ⟨x4, x5, ⟨k0, k1, k2, k3, k4, ci, vs, k5, k6⟩, y4, y5⟩
