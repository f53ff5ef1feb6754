/-! THE WAY, 3: rows that are had have a way; gains -/
theorem i32_nat {x : Int32} {n : Nat} (h : x.toInt = n) : x = Int32.ofNat n := by
  rw [i32_of h]
  first
    | exact Int32.ofInt_natCast n
    | exact Int32.ofInt_eq_ofNat
    | exact Int32.toBitVec_inj.mp (BitVec.ofInt_natCast 32 n)
/-- a row r had by p from H on has a way -/
def WY (fw fm fn ft f : Nat → Int32) (fo mn p r : Nat) (H : Int) : Prop := HasWay (fun t => (fw t.toNat).toInt) (fun t => (fm t.toNat).toInt) (fun t => (fn t.toNat).toInt) (fun t => ft t.toNat ≠ 0) (fun t => hrF f (fm t.toNat) (fw t.toNat) (fn t.toNat) ≠ 0) (fun x => bOf fo x.toNat = true) (mn : Int) (p : Int) (fun x => bOf r x.toNat = true) (bN r) H
def RP (fw fm fn f : Nat → Int32) (fo mn : Nat) (ft fr : Nat → Int32) : Prop := ∀ p r : Nat, p < 10 → r < 1024 → 0 < (fr (1024 * p + r)).toInt → bOf r p = false ∧ WY fw fm fn ft f fo mn p r (fr (1024 * p + r)).toInt
/-- the talks and what does not change while they go on -/
def TX (fw fm fn f : Nat → Int32) (fo mn : Nat) (h : List cC) : Prop := h[184]? = some (.inr (.inl (0, 31, fw))) ∧ h[185]? = some (.inr (.inl (0, 31, fm))) ∧ h[186]? = some (.inr (.inl (0, 31, fn))) ∧ h[183]? = some (.inr (.inl (0, 230, f))) ∧ fv h 31 mn ∧ fv h 32 fo ∧ mn ≤ 31 ∧ fo < 1024 ∧ ∀ t : Nat, t < mn → fw t ≠ fm t
def RX (fw fm fn f : Nat → Int32) (fo mn : Nat) (h : List cC) : Prop := TX fw fm fn f fo mn h ∧ ∃ ft fr : Nat → Int32, h[196]? = some (.inr (.inl (2, 31, ft))) ∧ h[188]? = some (.inr (.inl (0, 10240, fr))) ∧ RP fw fm fn f fo mn ft fr
theorem TX_keep {W : aW} {fw fm fn f : Nat → Int32} {fo mn : Nat} {h h2 : List cC} (hf : Fr PT9 W h h2) (hw : inW W 184 1000 = false ∧ inW W 185 1000 = false ∧ inW W 186 1000 = false ∧ inW W 183 1000 = false ∧ inW W 170 31 = false ∧ inW W 170 32 = false) (hk : TX fw fm fn f fo mn h) : TX fw fm fn f fo mn h2 := by
  obtain ⟨w1, w2, w3, w4, w5, w6⟩ := hw
  obtain ⟨k1, k2, k3, k4, k5, k6, k7⟩ := hk
  exact ⟨Fr_row hf w1 k1, Fr_row hf w2 k2, Fr_row hf w3 k3, Fr_row hf w4 k4, fv_keep hf w5 k5, fv_keep hf w6 k6, k7⟩
theorem RX_keep {W : aW} {fw fm fn f : Nat → Int32} {fo mn : Nat} {h h2 : List cC} (hf : Fr PT9 W h h2) (hw : inW W 184 1000 = false ∧ inW W 185 1000 = false ∧ inW W 186 1000 = false ∧ inW W 183 1000 = false ∧ inW W 170 31 = false ∧ inW W 170 32 = false) (hw2 : inW W 196 1000 = false ∧ inW W 188 1000 = false) (hk : RX fw fm fn f fo mn h) : RX fw fm fn f fo mn h2 := by
  obtain ⟨k1, ft, fr, k2, k3, k4⟩ := hk
  exact ⟨TX_keep hf hw k1, ft, fr, Fr_row hf hw2.1 k2, Fr_row hf hw2.2 k3, k4⟩
theorem mo_j {h : List cC} (hG : HG TT [] h) {vs : List cV} (m1 : h[170]? = some (.inl (12, vs))) {j k : Nat} (hj : mT j = some (.inr (.inr (.inr (.inl [k]))))) : vs[j]? = some (cR k) := by
  obtain ⟨us, a1, a2⟩ := mod_at hG hj
  rw [m1] at a1
  cases a1
  exact a2
abbrev gaW : aW := [(188, 1000), (189, 1000), (190, 1000), (191, 1000), (195, 1000)]
abbrev gaV : aW := [(189, 1000), (190, 1000), (191, 1000), (195, 1000)]
abbrev gaA : aL := ((29, [(0, .inl [170]), (1, .inr (.inl (.inr (0, 1, 0)))), (2, .inr (.inl (.inr (0, 1, 1)))), (3, .inr (.inl (.inr (0, 1, 2))))], [], [], [(0, 9), (0, 1023), (0, 99)], []), (.inl 1, .inl 0, .inl 0))
abbrev gaO : List aU := [(none, [], [(0, 9), (0, 1023), (0, 99)], [])]
set_option maxRecDepth 1000000 in
theorem gaA_k : chkL P39 gaV (mkQ P39 gaV [zn155] 3000 0) eM182 3 [gaA] gaO 3000 gaA = true := by decide +kernel
theorem ga_ok {fw fm fn f : Nat → Int32} {fo mn : Nat} {h : List cC} (hG : HG TT [] h) (hJ : J9 h) (hk : RX fw fm fn f fo mn h) {p r hr : Int32} {P R : Nat} (hp : p.toInt = P) (hP : P < 10) (hr1 : r.toInt = R) (hR : R < 1024) (h0 : 0 < hr.toInt) (h9 : hr.toInt ≤ 99) (hn : bOf R P = false) (hw : ∀ ft : Nat → Int32, h[196]? = some (.inr (.inl (2, 31, ft))) → WY fw fm fn ft f fo mn P R hr.toInt) : ∃ h2 : List cC, Trm 2 182 [cR 170, cI p, cI r, cI hr] h none h2 ∧ HG TT [] h2 ∧ Fr PT9 gaW h h2 ∧ J9 h2 ∧ RX fw fm fn f fo mn h2 := by
  obtain ⟨kT, ft, fr, k2, k3, k4⟩ := hk
  obtain ⟨vs, m1, _⟩ := mo_at hG
  have m34 := mo_j hG m1 (j := 34) (k := 188) rfl
  have e1024 : ((Int16.ofInt 1024).toInt32).toInt = 1024 := rfl
  have a1 : ((Int16.ofInt 1024).toInt32 * p).toInt = 1024 * p.toInt := by rw [i32_mul (by rw [e1024]; omega) (by rw [e1024]; omega), e1024]
  have a2 : ((Int16.ofInt 1024).toInt32 * p + r).toInt = ((1024 * P + R : Nat) : Int) := by
    rw [i32_add (by omega) (by omega), a1]
    omega
  obtain ⟨i1, i2⟩ := in_B (n := 10240) a2 (by omega)
  have s11 : ∀ (ls : List (Nat × cV)) (st : List cV), cOne (calF (Trm 1)) eM182 none (11, ls, cI ((Int16.ofInt 1024).toInt32 * p + r) :: cR 188 :: st, h) = some (12, ls, cI (fr (1024 * P + R)) :: st, h) := fun ls st => by
    have := o_iald (call := calF (Trm 1)) (M := eM182) (sc := none) (pc := 11) (ls := ls) (st := st) rfl k3 i1
    rw [i2] at this
    exact this
  have s28 : ∀ (ls : List (Nat × cV)) (st : List cV), cOne (calF (Trm 1)) eM182 none (28, ls, cI hr :: cI ((Int16.ofInt 1024).toInt32 * p + r) :: cR 188 :: st, h) = some (29, ls, st, h.set 188 (.inr (.inl (0, 10240, upd fr (1024 * P + R) hr)))) := fun ls st => by
    have := o_iast (call := calF (Trm 1)) (M := eM182) (sc := none) (pc := 28) (ls := ls) (st := st) (x := hr) rfl k3 i1
    rw [i2] at this
    exact this
  have pre : ∀ S : cS, Go (calF (Trm 1)) eM182 none (12, [(0, cR 170), (1, cI p), (2, cI r), (3, cI hr)], [cI (fr (1024 * P + R))], h) S → Go (calF (Trm 1)) eM182 none (0, [(0, cR 170), (1, cI p), (2, cI r), (3, cI hr)], [], h) S := fun S hs => Go.step (o_aload_n (i := 0) rfl rfl) (Go.step (o_get rfl rfl rfl m1 m34) (Go.step (o_step rfl rfl) (Go.step (o_iload_n (i := 1) rfl rfl) (Go.step (o_step rfl rfl) (Go.step (o_iload_n (i := 2) rfl rfl) (Go.step (o_step rfl rfl) (Go.step (s11 _ _) hs)))))))
  have z0 : (0 : Int32).toInt = 0 := rfl
  by_cases hc : 0 < (fr (1024 * P + R)).toInt
  · have hd : cDec .le (fr (1024 * P + R)) 0 = false := decide_eq_false (fun z => by have := Int32.le_iff_toInt_le.mp z; omega)
    exact ⟨h, Trm_succ.mpr ⟨eM182, (15, [(0, cR 170), (1, cI p), (2, cI r), (3, cI hr)], [], h), rfl, Nat.le_of_ble_eq_true rfl, pre _ (Go.step (o_if_f (t := 16) rfl rfl hd) Go.rf), rfl⟩, hG, Fr.rf, hJ, kT, ft, fr, k2, k3, k4⟩
  · have hd : cDec .le (fr (1024 * P + R)) 0 = true := decide_eq_true (Int32.le_iff_toInt_le.mpr (by omega))
    have g1 : HG TT [] (h.set 188 (.inr (.inl (0, 10240, upd fr (1024 * P + R) hr)))) := HG_putI (k := 188) (kd := 0) (n := 10240) (d := (0, 99)) (gs := []) (f := fr) (i := 1024 * P + R) (x := hr) hG rfl k3 ⟨by show (0 : Int) ≤ _; omega, by show _ ≤ (99 : Int); omega⟩ (fun q hq => by cases hq) (fun j => by
      by_cases hj : j = 1024 * P + R
      · exact Or.inr ⟨hj, by rw [hj, pk_us]⟩
      · exact Or.inl (pk_un hj))
    have J1 : J9 (h.set 188 (.inr (.inl (0, 10240, upd fr (1024 * P + R) hr)))) := J9_ok h _ (fun k hk => List.getElem?_set_ne (fun e => by subst e; exact absurd hk (by decide))) hJ
    have hQ : Qok P9 gaV 1 (mkQ P39 gaV [zn155] 3000 0) := mkQ_ok J9_ok (d := 1) (cs_cons zt155 cs_nil) 3000 0
    have hO : ∀ l ∈ [gaA], Obl P9 gaV 1 eM182 3 gaO [gaA] l := fun l hl => by
      have e := List.mem_singleton.mp hl
      subst e
      exact chkL_ok J9_ok hQ gaA_k
    obtain ⟨S2, q, y1, y2, y3, y4, o, o1, ρ', o2, o3, o4, o5⟩ := Obl_all hO (ρ0 := [p.toInt, r.toInt, hr.toInt]) rfl (h0 := h.set 188 (.inr (.inl (0, 10240, upd fr (1024 * P + R) hr)))) _ gaA List.mem_cons_self [p.toInt, r.toInt, hr.toInt] (29, [(0, cR 170), (1, cI p), (2, cI r), (3, cI hr)], [], h.set 188 (.inr (.inl (0, 10240, upd fr (1024 * P + R) hr)))) rfl rfl g1 (bcons ⟨by show (0 : Int) ≤ _; omega, by show _ ≤ (9 : Int); omega⟩ (bcons ⟨by show (0 : Int) ≤ _; omega, by show _ ≤ (1023 : Int); omega⟩ (bcons ⟨by show (0 : Int) ≤ _; omega, by show _ ≤ (99 : Int); omega⟩ bnil))) ⟨List.prefix_rfl, fun q hq => by cases hq⟩ (okL_args (as := [.inl [170], .inr (.inl (.inr (0, 1, 0))), .inr (.inl (.inr (0, 1, 1))), .inr (.inl (.inr (0, 1, 2)))]) (vs := [cR 170, cI p, cI r, cI hr]) ⟨⟨170, List.mem_singleton.mpr rfl, rfl⟩, vxs rfl, vxs rfl, vxs rfl, trivial⟩) trivial (fun q hq => by cases hq) ⟨Fr.rf, J1⟩
    have e := List.mem_singleton.mp o1
    subst e
    have eq : q = none := by
      cases q with
      | none => rfl
      | some v => exact o5.elim
    subst eq
    have y2' : Fr PT9 gaV (h.set 188 (.inr (.inl (0, 10240, upd fr (1024 * P + R) hr)))) S2.2.2.2 := y2.1
    refine ⟨S2.2.2.2, Trm_succ.mpr ⟨eM182, S2, rfl, Nat.le_of_ble_eq_true rfl, pre _ (Go.step (o_if_t (t := 16) rfl rfl hd) (Go.step (o_aload_n (i := 0) rfl rfl) (Go.step (o_get rfl rfl rfl m1 m34) (Go.step (o_step rfl rfl) (Go.step (o_iload_n (i := 1) rfl rfl) (Go.step (o_step rfl rfl) (Go.step (o_iload_n (i := 2) rfl rfl) (Go.step (o_step rfl rfl) (Go.step (o_iload_n (i := 3) rfl rfl) (Go.step (s28 _ _) y1)))))))))), y3⟩, y4, Fr.tr (W2 := gaV) rfl (Fr_rw Fr.rf k3 rfl rfl) y2', y2.2, ?_⟩
    refine RX_keep y2' ⟨rfl, rfl, rfl, rfl, rfl, rfl⟩ ⟨rfl, rfl⟩ ⟨?_, ft, _, rw_ne (by decide) k2, rw_eq k3, fun p' r' hp' hr' h3 => ?_⟩
    · obtain ⟨t1, t2, t3, t4, t5, t6, t7⟩ := kT
      exact ⟨rw_ne (by decide) t1, rw_ne (by decide) t2, rw_ne (by decide) t3, rw_ne (by decide) t4, fv_row (by decide) t5, fv_row (by decide) t6, t7⟩
    · by_cases e : p' = P ∧ r' = R
      · obtain ⟨e1, e2⟩ := e
        subst e1 e2
        rw [pk_us]
        exact ⟨hn, hw ft k2⟩
      · have hne : 1024 * p' + r' ≠ 1024 * P + R := fun z => e (by omega)
        rw [pk_un hne] at h3 ⊢
        exact k4 p' r' hp' hr' h3
