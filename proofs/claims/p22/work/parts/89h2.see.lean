/-! GHOSTS, 8b: see and isWord where no space lies ahead -/
def NSP (h : List cC) : Prop := ∃ (n tp : Nat) (f : Nat → Int32), fv h 14 n ∧ fv h 1 tp ∧ n < tp ∧ tp ≤ 400 ∧ h[171]? = some (.inr (.inl (1, 400, f))) ∧ f n ≠ 32
theorem NSP_keep {h h2 : List cC} {W : aW} (hf : Fr PT9 W h h2) (hw : inW W 170 14 = false ∧ inW W 170 1 = false ∧ inW W 171 1000 = false) (hk : NSP h) : NSP h2 := by
  obtain ⟨n, tp, f, k1, k2, k3, k4, k5, k6⟩ := hk
  exact ⟨n, tp, f, fv_keep hf hw.1 k1, fv_keep hf hw.2.1 k2, k3, k4, Fr_row hf hw.2.2 k5, k6⟩
theorem mo_tp {h : List cC} (hG : HG TT [] h) {vs : List cV} (m1 : h[170]? = some (.inl (12, vs))) : vs[0]? = some (cR 171) := by
  obtain ⟨us, a1, a2⟩ := mod_at hG (j := 0) (k := 171) rfl
  rw [m1] at a1
  cases a1
  exact a2
theorem o_bald {call : cCl} {M : eM} {pc : Nat} {ls : List (Nat × cV)} {st : List cV} {h : List cC} {k n : Nat} {f : Nat → Int32} {i : Int32} (hf : fnd (m_il M) pc = some (.baload, 1)) (hk : h[k]? = some (.inr (.inl (1, n, f)))) (hi : inB i n = true) : cOne call M none (pc, ls, cI i :: cR k :: st, h) = some (pc + 1, ls, cI (f i.toNatClampNeg) :: st, h) := o_step hf (kBald_at (kd := 1) rfl hk hi)
theorem and255 (x : Int32) : 0 ≤ (x &&& (Int16.ofInt 255).toInt32).toInt ∧ (x &&& (Int16.ofInt 255).toInt32).toInt ≤ 255 := and_r (x := x) (y := (Int16.ofInt 255).toInt32) (by decide)
theorem se_nsp {call : cCl} {h : List cC} (hG : HG TT [] h) (hk : NSP h) : ∃ r : Int32, Go call eM232 none (0, [(0, cR 170)], [], h) (66, [(0, cR 170)], [cI r], h) ∧ 0 ≤ r.toInt ∧ r.toInt ≤ 255 := by
  obtain ⟨n, tp, f, k1, k2, k3, k4, k5, k6⟩ := hk
  obtain ⟨vs, m1, m3, m4, m5, m6, m7⟩ := mo_at hG
  have m0 := mo_tp hG m1
  obtain ⟨x, x1, x2⟩ := fv_at m1 k1
  obtain ⟨y, y1, y2⟩ := fv_at m1 k2
  have hd : cDec .ge x y = false := decide_eq_false (fun z => by have := Int32.le_iff_toInt_le.mp z; omega)
  have hd2 : cDec .ne (f n) (Int8.ofInt 32).toInt32 = true := decide_eq_true k6
  obtain ⟨i1, i2⟩ := in_B (n := 400) x2 (by omega)
  have s19 : ∀ (ls : List (Nat × cV)) (st : List cV), cOne call eM232 none (19, ls, cI x :: cR 171 :: st, h) = some (20, ls, cI (f n) :: st, h) := fun ls st => by
    have := o_bald (call := call) (M := eM232) (pc := 19) (ls := ls) (st := st) rfl k5 i1
    rw [i2] at this
    exact this
  have s57 : ∀ (ls : List (Nat × cV)) (st : List cV), cOne call eM232 none (57, ls, cI x :: cR 171 :: st, h) = some (58, ls, cI (f n) :: st, h) := fun ls st => by
    have := o_bald (call := call) (M := eM232) (pc := 57) (ls := ls) (st := st) rfl k5 i1
    rw [i2] at this
    exact this
  exact ⟨_, Go.step (o_aload_n (i := 0) rfl rfl) (Go.step (o_get rfl rfl rfl m1 x1) (Go.step (o_aload_n (i := 0) rfl rfl) (Go.step (o_get rfl rfl rfl m1 y1) (Go.step (o_ic_f (t := 38) rfl rfl hd) (Go.step (o_aload_n (i := 0) rfl rfl) (Go.step (o_get rfl rfl rfl m1 m0) (Go.step (o_aload_n (i := 0) rfl rfl) (Go.step (o_get rfl rfl rfl m1 x1) (Go.step (s19 _ _) (Go.step (o_step rfl rfl) (Go.step (o_ic_t (t := 38) rfl rfl hd2) (Go.step (o_aload_n (i := 0) rfl rfl) (Go.step (o_get rfl rfl rfl m1 x1) (Go.step (o_aload_n (i := 0) rfl rfl) (Go.step (o_get rfl rfl rfl m1 y1) (Go.step (o_ic_f (t := 65) rfl rfl hd) (Go.step (o_aload_n (i := 0) rfl rfl) (Go.step (o_get rfl rfl rfl m1 m0) (Go.step (o_aload_n (i := 0) rfl rfl) (Go.step (o_get rfl rfl rfl m1 x1) (Go.step (s57 _ _) (Go.step (o_step rfl rfl) (Go.step (o_step rfl rfl) (Go.step (o_step rfl rfl) Go.rf)))))))))))))))))))))))), (and255 (f n)).1, (and255 (f n)).2⟩
theorem see_lp {call : cCl} : ∀ (m n tp : Nat) (h : List cC), HG TT [] h → J9 h → fv h 14 n → fv h 1 tp → tp ≤ 400 → n ≤ 400 → tp - n ≤ m → ∃ (r : Int32) (h2 : List cC), Go call eM232 none (0, [(0, cR 170)], [], h) (66, [(0, cR 170)], [cI r], h2) ∧ HG TT [] h2 ∧ Fr PT9 [(170, 14)] h h2 ∧ J9 h2 ∧ (r.toInt = -1 ∨ (0 ≤ r.toInt ∧ r.toInt ≤ 255 ∧ NSP h2))
  | m, n, tp, h, hG, hJ, k1, k2, ht, hn, hm => by
    obtain ⟨vs, m1, m3, m4, m5, m6, m7⟩ := mo_at hG
    have m0 := mo_tp hG m1
    obtain ⟨x, x1, x2⟩ := fv_at m1 k1
    obtain ⟨y, y1, y2⟩ := fv_at m1 k2
    obtain ⟨f, k5, _⟩ := HG_row hG (k := 171) (kd := 1) (n := 400) (d := (-128, 127)) rfl
    by_cases hlt : n < tp
    · by_cases h32 : f n = 32
      · have hd : cDec .ge x y = false := decide_eq_false (fun z => by have := Int32.le_iff_toInt_le.mp z; omega)
        have hd2 : cDec .ne (f n) (Int8.ofInt 32).toInt32 = false := by rw [h32]; decide
        obtain ⟨i1, i2⟩ := in_B (n := 400) x2 (by omega)
        have s19 : ∀ (ls : List (Nat × cV)) (st : List cV), cOne call eM232 none (19, ls, cI x :: cR 171 :: st, h) = some (20, ls, cI (f n) :: st, h) := fun ls st => by
          have := o_bald (call := call) (M := eM232) (pc := 19) (ls := ls) (st := st) rfl k5 i1
          rw [i2] at this
          exact this
        have hcl : classes[12]? = some classes[12] := rfl
        have hv14 : 14 < vs.length := (List.getElem?_eq_some_iff.mp x1).1
        have hx1 : (x + Int32.ofInt 1).toInt = ((n + 1 : Nat) : Int) := by
          rw [i32_add (by rw [one_i]; omega) (by rw [one_i]; omega), one_i]
          omega
        match m, hm with
        | 0, hm => omega
        | m + 1, hm =>
          obtain ⟨r, h2, z1, z2, z3, z4, z5⟩ := see_lp (call := call) m (n + 1) tp _ (HG_mo hG m1 (j := 14) (b := (0, 400)) (x := x + Int32.ofInt 1) rfl ⟨by show (0 : Int) ≤ _; omega, by show _ ≤ (400 : Int); omega⟩) (J9_mo hJ) (by
            have := fv_eq m1 hv14 (x + Int32.ofInt 1)
            rw [hx1] at this
            exact this) (fv_ne m1 (by decide) k2) ht (by omega) (by omega)
          exact ⟨r, h2, Go.step (o_aload_n (i := 0) rfl rfl) (Go.step (o_get rfl rfl rfl m1 x1) (Go.step (o_aload_n (i := 0) rfl rfl) (Go.step (o_get rfl rfl rfl m1 y1) (Go.step (o_ic_f (t := 38) rfl rfl hd) (Go.step (o_aload_n (i := 0) rfl rfl) (Go.step (o_get rfl rfl rfl m1 m0) (Go.step (o_aload_n (i := 0) rfl rfl) (Go.step (o_get rfl rfl rfl m1 x1) (Go.step (s19 _ _) (Go.step (o_step rfl rfl) (Go.step (o_ic_f (t := 38) rfl rfl hd2) (Go.step (o_aload_n (i := 0) rfl rfl) (Go.step (o_step rfl rfl) (Go.step (o_get rfl rfl rfl m1 x1) (Go.step (o_step rfl rfl) (Go.step (o_step rfl rfl) (Go.step (o_put rfl rfl rfl m1 x1 hcl rfl rfl) (Go.step (o_step rfl rfl) z1)))))))))))))))))), z2, Fr.tr (subW_rf _) (Fr_mo Fr.rf m1 rfl) z3, z4, z5⟩
      · have hN : NSP h := ⟨n, tp, f, k1, k2, hlt, ht, k5, h32⟩
        obtain ⟨r, z1, z2, z3⟩ := se_nsp (call := call) hG hN
        exact ⟨r, h, z1, hG, Fr.rf, hJ, Or.inr ⟨z2, z3, hN⟩⟩
    · have hd : cDec .ge x y = true := decide_eq_true (Int32.le_iff_toInt_le.mpr (by omega))
      exact ⟨Int32.ofInt (-1), h, Go.step (o_aload_n (i := 0) rfl rfl) (Go.step (o_get rfl rfl rfl m1 x1) (Go.step (o_aload_n (i := 0) rfl rfl) (Go.step (o_get rfl rfl rfl m1 y1) (Go.step (o_ic_t (t := 38) rfl rfl hd) (Go.step (o_aload_n (i := 0) rfl rfl) (Go.step (o_get rfl rfl rfl m1 x1) (Go.step (o_aload_n (i := 0) rfl rfl) (Go.step (o_get rfl rfl rfl m1 y1) (Go.step (o_ic_t (t := 65) rfl rfl hd) (Go.step (o_step rfl rfl) Go.rf)))))))))), hG, Fr.rf, hJ, Or.inl rfl⟩
theorem see_ok {h : List cC} (hG : HG TT [] h) (hJ : J9 h) : ∃ (r : Int32) (h2 : List cC), Trm 1 232 [cR 170] h (some (cI r)) h2 ∧ HG TT [] h2 ∧ Fr PT9 [(170, 14)] h h2 ∧ J9 h2 ∧ (r.toInt = -1 ∨ (0 ≤ r.toInt ∧ r.toInt ≤ 255 ∧ NSP h2)) := by
  obtain ⟨x, x1, x2, x3⟩ := HG_mf hG (j := 14) (b := (0, 400)) rfl
  obtain ⟨y, y1, y2, y3⟩ := HG_mf hG (j := 1) (b := (0, 400)) rfl
  have x2 : (0 : Int) ≤ x.toInt := x2
  have x3 : x.toInt ≤ (400 : Int) := x3
  have y2 : (0 : Int) ≤ y.toInt := y2
  have y3 : y.toInt ≤ (400 : Int) := y3
  obtain ⟨r, h2, z1, z2⟩ := see_lp (call := calF (Trm 0)) _ x.toInt.toNat y.toInt.toNat h hG hJ ⟨x, x1, by omega⟩ ⟨y, y1, by omega⟩ (by omega) (by omega) (Nat.le_refl _)
  exact ⟨r, h2, Trm_succ.mpr ⟨eM232, (66, [(0, cR 170)], [cI r], h2), rfl, Nat.le_of_ble_eq_true rfl, z1, rfl⟩, z2⟩
/-- isWord behind its see -/
abbrev iwA : aL := ((4, [(0, .inl [170]), (1, .inr (.inr (.inl (.inr (0, 1, 0)))))], [.inr (.inl (.inr (0, 1, 1)))], [], [((-9223372036854775808), 9223372036854775807), (0, 255)], []), (.inl 803, .inl 0, .inl 0))
abbrev iwB : aL := ((10, [(0, .inl [170]), (1, .inr (.inr (.inl (.inr (0, 1, 0))))), (3, .inr (.inr (.inl (.inr (0, 1, 3))))), (5, .inr (.inl (.inr (0, 1, 4))))], [], [(170, 14, .inr (.inl (.inr (0, 1, 2))))], [((-9223372036854775808), 9223372036854775807), (0, 255), (0, 400), ((-9223372036854775808), 9223372036854775807), (0, 400)], []), (.inr (801, (-2), 4), .inl 0, .inl 0))
abbrev iwO : List aU := [(some (.inr (.inl (.inl 0))), [], [((-9223372036854775808), 9223372036854775807), (0, 255)], []), (some (.inr (.inl (.inl 1))), [], [((-9223372036854775808), 9223372036854775807), (0, 255)], [])]
set_option maxRecDepth 1000000 in
theorem iwA_k : chkL P39 [] (mkQ P39 [] [] 3000 1) eM209 2 [iwA, iwB] iwO 3000 iwA = true := by decide +kernel
set_option maxRecDepth 1000000 in
theorem iwB_k : chkL P39 [] (mkQ P39 [] [] 3000 1) eM209 2 [iwA, iwB] iwO 3000 iwB = true := by decide +kernel
theorem iw_nsp {h : List cC} (hG : HG TT [] h) (hJ : J9 h) (hk : NSP h) (w : Int64) : ∃ (r : Option cV) (h2 : List cC), Trm 2 209 [cR 170, cJ w] h r h2 ∧ HG TT [] h2 ∧ Fr PT9 [] h h2 ∧ J9 h2 ∧ (retV [] (ghR (some 0)) r ∨ retV [] (ghR (some 1)) r) := by
  obtain ⟨q, z1, z2, z3⟩ := se_nsp (call := calF (Trm 0)) hG hk
  have hT : Trm 1 232 [cR 170] h (some (cI q)) h := Trm_succ.mpr ⟨eM232, (66, [(0, cR 170)], [cI q], h), rfl, Nat.le_of_ble_eq_true rfl, z1, rfl⟩
  obtain ⟨vs, m1, m3, m4, m5, m6, m7⟩ := mo_at hG
  have s1 : cOne (calF (Trm 1)) eM209 none (1, [(0, cR 170), (1, cJ w)], [cR 170], h) = some (4, [(0, cR 170), (1, cJ w)], [cI q], h) := gh_inv (d := 1) (mi := 232) (N := eM232) (pc := 1) (ls := [(0, cR 170), (1, cJ w)]) (st := [cR 170]) (r := some (cI q)) rfl rfl rfl rfl rfl (by show recC h 12 [cR 170] = true; unfold recC; dsimp only; rw [m1]; rfl) hT
  have hQ : Qok P9 [] 1 (mkQ P39 [] [] 3000 1) := mkQ_ok J9_ok (d := 0) cs_nil 3000 1
  have hO : ∀ l ∈ [iwA, iwB], Obl P9 [] 1 eM209 2 iwO [iwA, iwB] l := fun l hl => by
    rcases List.mem_cons.mp hl with e | hl
    · subst e
      exact chkL_ok J9_ok hQ iwA_k
    · have e := List.mem_singleton.mp hl
      subst e
      exact chkL_ok J9_ok hQ iwB_k
  obtain ⟨S2, r, y1, y2, y3, y4, o, o1, ρ', o2, o3, o4, o5⟩ := Obl_all hO (ρ0 := [w.toInt, q.toInt]) rfl (h0 := h) _ iwA List.mem_cons_self [w.toInt, q.toInt] (4, [(0, cR 170), (1, cJ w)], [cI q], h) rfl rfl hG (bcons (in_f64 w) (bcons ⟨by show (0 : Int) ≤ _; omega, by show _ ≤ (255 : Int); omega⟩ bnil)) ⟨List.prefix_rfl, fun q hq => by cases hq⟩ (fun p hp => by
    rcases List.mem_cons.mp hp with e | hp
    · subst e
      exact ⟨cR 170, rfl, 170, List.mem_singleton.mpr rfl, rfl⟩
    · have e := List.mem_singleton.mp hp
      subst e
      exact ⟨cJ w, rfl, w, rfl, xs_ok rfl⟩) ⟨vxs rfl, trivial⟩ (fun q hq => by cases hq) ⟨Fr.rf, hJ⟩
  refine ⟨r, S2.2.2.2, Trm_succ.mpr ⟨eM209, S2, rfl, Nat.le_of_ble_eq_true rfl, Go.step (o_aload_n (i := 0) rfl rfl) (Go.step s1 y1), y3⟩, y4, y2.1, y2.2, ?_⟩
  rcases List.mem_cons.mp o1 with e | o1
  · subst e
    obtain ⟨x, x1, x2⟩ := ret_c o5
    subst x1
    exact Or.inl ⟨x, rfl, x2⟩
  · have e := List.mem_singleton.mp o1
    subst e
    obtain ⟨x, x1, x2⟩ := ret_c o5
    subst x1
    exact Or.inr ⟨x, rfl, x2⟩
/-- a call whose answer is a number within bounds -/
theorem G_callS {JF : Nat → List cC → Prop} {mu : List cC → Nat} {WA : aW} {d : Nat} {M : eM} {outs : List ghO} {Ls : List ghL} {mi idx : Nat} {N : eM} (hN : eMT[mi]? = some N) (hn : m_n N = 0) {pc : Nat} {als : List (Nat × aV)} {B : List eP} {i p r : Nat} (hf : fnd (m_il M) pc = some (.invokevirtual idx, 3)) (ht : fnd (mTab.getD (m_o M) []) idx = some (2, mi)) (ho : m_o N = 12) {couts : List (eP × Nat × Nat)} (hc : ∀ h : List cC, HG TT [] h → J9 h → JF i h → ∃ (x : Int32) (h2 : List cC), Trm d mi [cR 170] h (some (cI x)) h2 ∧ HG TT [] h2 ∧ Fr PT9 WA h h2 ∧ J9 h2 ∧ ∃ o ∈ couts, bt2 o.1 x.toInt ∧ JF o.2.1 h2 ∧ mu h2 = mu h) (hk : ∀ o ∈ couts, (((pc + 3, als, [aI (xs B.length)], [], B ++ [o.1], []), o.2.1, p, o.2.2) : ghL) ∈ Ls ∧ o.2.2 < r) : OblG JF mu WA d M outs Ls ((pc, als, [.inl [170]], [], B, []), i, p, r) := by
  intro S hS hJ hK
  obtain ⟨Spc, Sls, Sst, Sh⟩ := S
  obtain ⟨e1, hG, ρ, hB, hR, hL, hSt, hF⟩ := hS
  dsimp only at e1 hG hB hR hL hSt hF hJ hK
  have e2 := arg1 hSt
  subst e1 e2
  obtain ⟨x, h2, t1, t2, t3, t4, o, o1, o2, o3, o4⟩ := hc Sh hG hJ hK
  obtain ⟨k1, k2⟩ := hk o o1
  obtain ⟨vs, m1, _⟩ := mo_at hG
  have hp : ρ <+: ρ ++ [x.toInt] := List.prefix_append _ _
  have s1 : cOne (calF (Trm d)) M none (Spc, Sls, [cR 170], Sh) = some (Spc + 3, Sls, [cI x], h2) := by
    have := gh_inv (d := d) (mi := mi) (N := N) (pc := Spc) (ls := Sls) (st := [cR 170]) (r := some (cI x)) hf ht hN (by rw [hn]; rfl) (by rw [hn]; rfl) (by rw [hn, ho]; show recC Sh 12 [cR 170] = true; unfold recC; dsimp only; rw [m1]; rfl) (by rw [hn]; exact t1)
    rw [hn] at this
    exact this
  refine ⟨(Spc + 3, Sls, [cI x], h2), Go.step s1 Go.rf, t3, t4, Or.inl ⟨_, k1, ⟨rfl, t2, ρ ++ [x.toInt], okB_app hB (bcons o2 bnil), ⟨List.nil_prefix, fun q hq => by cases hq⟩, okL_mono hp hL, ⟨vxs ?_, trivial⟩, fun q hq => by cases hq⟩, o3, ?_⟩⟩
  · rw [← hB.1, List.getElem?_append_right (Nat.le_refl _), Nat.sub_self]
    rfl
  · dsimp only
    rw [o4]
    exact Prod.Lex.right _ (Prod.Lex.right _ k2)
/-- less is known -/
theorem G_idx {JF : Nat → List cC → Prop} {mu : List cC → Nat} {WA : aW} {d : Nat} {M : eM} {outs : List ghO} {Ls : List ghL} {a : aS} {i p r i2 r2 : Nat} (hm : ((a, i2, p, r2) : ghL) ∈ Ls) (hr : r2 < r) (hc : ∀ h : List cC, JF i h → JF i2 h) : OblG JF mu WA d M outs Ls (a, i, p, r) := fun S hS hJ hK => ⟨S, Go.rf, Fr.rf, hJ, Or.inl ⟨_, hm, hS, hc _ hK, Prod.Lex.right _ (Prod.Lex.right _ hr)⟩⟩
