/-! THE ENGINE, 10: a step is the machine's (printed by wip/engine/gen22.py) -/
theorem n_max {a b : eP} {x y : Int32} (ha : bt2 a x.toInt) (hb : bt2 b y.toInt) : bt2 (eMax a b) (if x < y then y else x).toInt := by
  have h1 := ha.1; have h2 := ha.2; have h3 := hb.1; have h4 := hb.2
  have hl : (a.1 ≤ b.1 ∧ (eMax a b).1 = b.1) ∨ (b.1 < a.1 ∧ (eMax a b).1 = a.1) := by
    unfold eMax
    cases c : iLe a.1 b.1 with
    | true => exact Or.inl ⟨iLe_ok.mp c, rfl⟩
    | false => exact Or.inr ⟨by have : ¬ a.1 ≤ b.1 := fun z => by rw [iLe_ok.mpr z] at c; cases c
                                omega, rfl⟩
  have hu : (a.2 ≤ b.2 ∧ (eMax a b).2 = b.2) ∨ (b.2 < a.2 ∧ (eMax a b).2 = a.2) := by
    unfold eMax
    cases c : iLe a.2 b.2 with
    | true => exact Or.inl ⟨iLe_ok.mp c, rfl⟩
    | false => exact Or.inr ⟨by have : ¬ a.2 ≤ b.2 := fun z => by rw [iLe_ok.mpr z] at c; cases c
                                omega, rfl⟩
  by_cases hxy : x < y
  · rw [if_pos hxy]
    have := Int32.lt_iff_toInt_lt.mp hxy
    unfold bt2
    constructor <;> omega
  · rw [if_neg hxy]
    have : ¬ x.toInt < y.toInt := fun z => hxy (Int32.lt_iff_toInt_lt.mpr z)
    unfold bt2
    constructor <;> omega
theorem n_min {a b : eP} {x y : Int32} (ha : bt2 a x.toInt) (hb : bt2 b y.toInt) : bt2 (eMin a b) (if y < x then y else x).toInt := by
  have h1 := ha.1; have h2 := ha.2; have h3 := hb.1; have h4 := hb.2
  have hl : (a.1 ≤ b.1 ∧ (eMin a b).1 = a.1) ∨ (b.1 < a.1 ∧ (eMin a b).1 = b.1) := by
    unfold eMin
    cases c : iLe a.1 b.1 with
    | true => exact Or.inl ⟨iLe_ok.mp c, rfl⟩
    | false => exact Or.inr ⟨by have : ¬ a.1 ≤ b.1 := fun z => by rw [iLe_ok.mpr z] at c; cases c
                                omega, rfl⟩
  have hu : (a.2 ≤ b.2 ∧ (eMin a b).2 = a.2) ∨ (b.2 < a.2 ∧ (eMin a b).2 = b.2) := by
    unfold eMin
    cases c : iLe a.2 b.2 with
    | true => exact Or.inl ⟨iLe_ok.mp c, rfl⟩
    | false => exact Or.inr ⟨by have : ¬ a.2 ≤ b.2 := fun z => by rw [iLe_ok.mpr z] at c; cases c
                                omega, rfl⟩
  by_cases hxy : y < x
  · rw [if_pos hxy]
    have := Int32.lt_iff_toInt_lt.mp hxy
    unfold bt2
    constructor <;> omega
  · rw [if_neg hxy]
    have : ¬ y.toInt < x.toInt := fun z => hxy (Int32.lt_iff_toInt_lt.mpr z)
    unfold bt2
    constructor <;> omega
theorem cpy1_ok {n1 : Nat} {α : Type} (ti : α → Int) (f : Nat → α) (q0 : eA) : ∀ (n sp dp : Nat) (q1 : eA) (g : Nat → α), (∀ i, i < n → bt2 (aLook q0.2 q0.1 (sp + i)) (ti (f (sp + i)))) → (∀ j, j < n1 → bt2 (aLook q1.2 q1.1 j) (ti (g j))) → dp + n ≤ n1 → ∀ j, j < n1 → bt2 (aLook (cpy1 n q0 sp dp q1).2 (cpy1 n q0 sp dp q1).1 j) (ti (va_cpy f g sp dp n j))
  | 0, sp, dp, q1, g, hf, hg, hn, j, hj => by
    unfold cpy1
    rw [pk_cpy_out (by omega)]
    exact hg j hj
  | n + 1, sp, dp, q1, g, hf, hg, hn, j, hj => by
    unfold cpy1
    have ih := cpy1_ok (n1 := n1) ti f q0 n (sp + 1) (dp + 1) (q1.1, aPut q1.2 dp (aLook q0.2 q0.1 sp)) (fun k => if k = dp then f sp else g k) (fun i hi => by
      have := hf (i + 1) (by omega)
      rw [show sp + 1 + i = sp + (i + 1) by omega]
      exact this) (fun j hj => by
      dsimp only
      by_cases hd : j = dp
      · subst hd
        rw [aPut_s, if_pos rfl]
        exact hf 0 (by omega)
      · rw [aPut_n _ _ _ _ _ hd, if_neg hd]
        exact hg j hj) (by omega) j hj
    have e : va_cpy f (fun k => if k = dp then f sp else g k) (sp + 1) (dp + 1) n j = va_cpy f g sp dp (n + 1) j := by
      unfold va_cpy
      by_cases h1 : dp + 1 ≤ j ∧ j < dp + 1 + n
      · rw [if_pos h1, if_pos (by omega)]
        congr 1
        omega
      · rw [if_neg h1]
        show (if j = dp then f sp else g j) = _
        by_cases h2 : j = dp
        · rw [if_pos h2, if_pos (by omega)]
          congr 1
          omega
        · rw [if_neg h2, if_neg (by omega)]
    rw [e] at ih
    exact ih
section
variable {p : Program} {l : Launch} {e : Env} {R : Room} {s : State} {m : MethodId} {args : Array Value} {below : List Frame} {meth : Method} {c : Code} {Q : State → Prop} {D : va_G} {A : Nat → Prop} {al0 : List Nat} {oe : Nat → Nat} {M : eM} {call : eCl} {d : Nat} {sc : Option (List eP)} {pc cl sl : Nat} {ls : List (Nat × eV)} {st : List eV} {h : List eC}
theorem q_mmax (X : eCx p l R s m args meth c D A oe M call d sc) {idx mi : Nat} {a b : eP} (hf : fnd (mTab.getD (m_o M) []) idx = some (8, mi)) (hd : decode (m_b M) pc = .ok (.invokestatic idx, 3)) (hcat : catS st ≤ 8) (hc : cl ≤ m_c M) (hs : sl ≤ m_s M) (k : eK p l e R s m args below meth c Q D A al0 oe (m_L M) (pc + 3) ls (eI (eMax a b) :: st) h cl sl) : eK p l e R s m args below meth c Q D A al0 oe (m_L M) pc ls (eI b :: eI a :: st) h cl sl := by
  intro H locs lsC stC g
  obtain ⟨ws, tys, hK, hP, hD, hS, ha, hW, ⟨lv, hl, hL⟩, hst⟩ := g
  obtain ⟨hx, hb, hml, hown, hts, hA, hE, hoc, hin, hRc, hRs, hfr, hlo, hsc, hcok⟩ := X
  have hmt := List.all_eq_true.mp (mTab_ok _ _ hoc) _ (fnd_mem hf)
  unfold mOKl at hmt
  dsimp only at hmt
  have hmt := of_decide_eq_true hmt
  have hg2 := glb_ok2
  match stC, hst with
  | _ :: _ :: stC, ⟨⟨y, rfl, hy⟩, ⟨x, rfl, hx2⟩, hst⟩ =>
    exact va_mmax hx hb (hml.trans hl.1.symm) hown (hts _ (gtbl_in hmt rfl)) (hts _ (gtbl_in hg2.2.1 rfl)) (hts _ (gtbl_in hg2.1 rfl)) (hts _ (gtbl_in hg2.2.2.1 rfl)) (by omega) (by rw [gS_cat hst]; omega) (by rw [hRc]; exact hc) (by rw [hRs]; exact hs) hd (k H locs lsC _ ⟨ws, tys, hK, hP, hD, hS, ha, hW, ⟨lv, hl, hL⟩, ⟨_, rfl, n_max hx2 hy⟩, hst⟩)
theorem q_mmin (X : eCx p l R s m args meth c D A oe M call d sc) {idx mi : Nat} {a b : eP} (hf : fnd (mTab.getD (m_o M) []) idx = some (9, mi)) (hd : decode (m_b M) pc = .ok (.invokestatic idx, 3)) (hcat : catS st ≤ 8) (hc : cl ≤ m_c M) (hs : sl ≤ m_s M) (k : eK p l e R s m args below meth c Q D A al0 oe (m_L M) (pc + 3) ls (eI (eMin a b) :: st) h cl sl) : eK p l e R s m args below meth c Q D A al0 oe (m_L M) pc ls (eI b :: eI a :: st) h cl sl := by
  intro H locs lsC stC g
  obtain ⟨ws, tys, hK, hP, hD, hS, ha, hW, ⟨lv, hl, hL⟩, hst⟩ := g
  obtain ⟨hx, hb, hml, hown, hts, hA, hE, hoc, hin, hRc, hRs, hfr, hlo, hsc, hcok⟩ := X
  have hmt := List.all_eq_true.mp (mTab_ok _ _ hoc) _ (fnd_mem hf)
  unfold mOKl at hmt
  dsimp only at hmt
  have hmt := of_decide_eq_true hmt
  have hg2 := glb_ok2
  match stC, hst with
  | _ :: _ :: stC, ⟨⟨y, rfl, hy⟩, ⟨x, rfl, hx2⟩, hst⟩ =>
    exact va_mmin hx hb (hml.trans hl.1.symm) hown (hts _ (gtbl_in hmt rfl)) (hts _ (gtbl_in hg2.2.2.2.1 rfl)) (hts _ (gtbl_in hg2.1 rfl)) (hts _ (gtbl_in hg2.2.2.2.2 rfl)) (by omega) (by rw [gS_cat hst]; omega) (by rw [hRc]; exact hc) (by rw [hRs]; exact hs) hd (k H locs lsC _ ⟨ws, tys, hK, hP, hD, hS, ha, hW, ⟨lv, hl, hL⟩, ⟨_, rfl, n_min hx2 hy⟩, hst⟩)
set_option maxHeartbeats 1000000 in
theorem q_cpy (X : eCx p l R s m args meth c D A oe M call d sc) {idx mi : Nat} {n dp sp : eP} {kd ks k0 n0 n1 : Nat} {q0 q1 : eA} (hf : fnd (mTab.getD (m_o M) []) idx = some (7, mi)) (hd : decode (m_b M) pc = .ok (.invokestatic idx, 3)) (h0 : h[ks]? = some (.inr (.inl (k0, n0, q0)))) (h1 : h[kd]? = some (.inr (.inl (k0, n1, q1)))) (hk : k0 = 0 ∨ k0 = 3) (o1 : onePos n = true) (o2 : onePos dp = true) (o3 : onePos sp = true) (b1 : sp.1.toNat + n.1.toNat ≤ n0) (b2 : dp.1.toNat + n.1.toNat ≤ n1) (k : eK p l e R s m args below meth c Q D A al0 oe (m_L M) (pc + 3) ls [] (h.set kd (.inr (.inl (k0, n1, cpy1 n.1.toNat q0 sp.1.toNat dp.1.toNat q1)))) cl sl) : eK p l e R s m args below meth c Q D A al0 oe (m_L M) pc ls [eI n, eI dp, eR kd, eI sp, eR ks] h cl sl := by
  intro H locs lsC stC g
  obtain ⟨ws, tys, hK, hP, hD, hS, ha, hW, ⟨lv, hl, hL⟩, hst⟩ := g
  obtain ⟨hx, hb, hml, hown, hts, hA, hE, hoc, hin, hRc, hRs, hfr, hlo, hsc, hcok⟩ := X
  have hmt := List.all_eq_true.mp (mTab_ok _ _ hoc) _ (fnd_mem hf)
  unfold mOKl at hmt
  dsimp only at hmt
  have hmt := of_decide_eq_true hmt
  obtain ⟨-, -, g3, g4, g5, -⟩ := glb_ok
  match stC, hst with
  | [_, _, _, _, _], ⟨⟨xn, rfl, hxn⟩, ⟨xd, rfl, hxd⟩, ⟨ad, had, rfl⟩, ⟨xs, rfl, hxs⟩, ⟨as, has, rfl⟩, _⟩ =>
    obtain ⟨e0, w0, c0, ⟨t0, ht0⟩, hn0, hc0⟩ := gW_at hW h0 has
    obtain ⟨e1, w1, c1, ⟨t1, ht1⟩, hn1, hc1⟩ := gW_at hW h1 had
    obtain ⟨xn1, xn2, xn3, xn4⟩ := onePos_ok o1 hxn
    obtain ⟨xd1, xd2, xd3, xd4⟩ := onePos_ok o2 hxd
    obtain ⟨xs1, xs2, xs3, xs4⟩ := onePos_ok o3 hxs
    have cn : xn.toNatClampNeg = n.1.toNat := by show xn.toInt.toNat = _; rw [xn1]
    have cd : xd.toNatClampNeg = dp.1.toNat := by show xd.toInt.toNat = _; rw [xd1]
    have cs : xs.toNatClampNeg = sp.1.toNat := by show xs.toInt.toNat = _; rw [xs1]
    have nn : ∀ z : Int32, 0 ≤ z.toInt → ¬ z < 0 := fun z hz hl => by
      have := Int32.lt_iff_toInt_lt.mp hl
      simp at this
      omega
    have hlw : (([] : List Value).map fun v => v.category).sum + (nativeFrameWords "java/lang/System" "arraycopy" 5 + 11) ≤ R.locals := by
      have hz : nativeFrameWords "java/lang/System" "arraycopy" 5 + 11 ≤ 59 := by decide +kernel
      show 0 + _ ≤ _
      omega
    have hfr1 : 1 ≤ R.frames := by omega
    rcases hk with rfl | rfl
    · rcases hc0 with ⟨-, f, rfl, hf0⟩ | ⟨z, -⟩
      · rcases hc1 with ⟨-, g, rfl, hg0⟩ | ⟨z, -⟩
        · refine va_copyi hx hb (hml.trans hl.1.symm) hown (hts _ (gtbl_in hmt rfl)) (hts _ (gtbl_in g3 rfl)) (hts _ (gtbl_in g4 rfl)) (hts _ (gtbl_in g5 rfl)) hK hP hD hS ks kd t0 t1 w0 w1 ht0 ht1 rfl (sp := xs) (dp := xd) (n := xn) (nn _ (by omega)) (nn _ (by omega)) (nn _ (by omega)) (by rw [cs, cn]; exact b1) (by rw [cd, cn]; exact b2) (fun _ _ => rfl) hfr1 hlw (rest := []) hd (fun H1 locs1 hP1 hD1 hS1 => k H1 locs1 lsC _ ⟨_, tys, hK, hP1, hD1, hS1, by rw [adr_set w1]; exact ha, gW_set hW w1 ⟨c1, ⟨t1, ht1⟩, hn1, Or.inl ⟨by decide, _, rfl, ?_⟩⟩, ⟨lv, hl, by rw [adr_set w1]; exact hL⟩, trivial⟩)
          rw [cs, cd, cn]
          exact cpy1_ok (fun z : Int32 => z.toInt) f q0 n.1.toNat sp.1.toNat dp.1.toNat q1 g (fun i hi => hf0 _ (by omega)) hg0 b2
        · exact absurd z (by decide)
      · exact absurd z (by decide)
    · rcases hc0 with ⟨z, -⟩ | ⟨-, f, rfl, hf0⟩
      · exact absurd z (by decide)
      · rcases hc1 with ⟨z, -⟩ | ⟨-, g, rfl, hg0⟩
        · exact absurd z (by decide)
        · refine va_copyl hx hb (hml.trans hl.1.symm) hown (hts _ (gtbl_in hmt rfl)) (hts _ (gtbl_in g3 rfl)) (hts _ (gtbl_in g4 rfl)) (hts _ (gtbl_in g5 rfl)) hK hP hD hS ks kd t0 t1 w0 w1 ht0 ht1 rfl (sp := xs) (dp := xd) (n := xn) (nn _ (by omega)) (nn _ (by omega)) (nn _ (by omega)) (by rw [cs, cn]; exact b1) (by rw [cd, cn]; exact b2) (fun _ _ => rfl) hfr1 hlw (rest := []) hd (fun H1 locs1 hP1 hD1 hS1 => k H1 locs1 lsC _ ⟨_, tys, hK, hP1, hD1, hS1, by rw [adr_set w1]; exact ha, gW_set hW w1 ⟨c1, ⟨t1, ht1⟩, hn1, Or.inr ⟨rfl, _, rfl, ?_⟩⟩, ⟨lv, hl, by rw [adr_set w1]; exact hL⟩, trivial⟩)
          rw [cs, cd, cn]
          exact cpy1_ok (fun z : Int64 => z.toInt) f q0 n.1.toNat sp.1.toNat dp.1.toNat q1 g (fun i hi => hf0 _ (by omega)) hg0 b2
end
