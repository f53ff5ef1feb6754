/-! GHOSTS, 1: labels, and what else is kept there, by its index -/
abbrev ghL : Type := aS × Nat × Nat × Nat
abbrev ghO : Type := Option Int × Nat
def ghA (l : ghL) : aL := (l.1, (.inl (l.2.2.1 : Int), .inl (l.2.2.2 : Int), .inl 0))
def ghSel (i : Nat) (Ls : List ghL) : List aL := (Ls.filter (fun l => Nat.beq l.2.1 i)).map ghA
def ghR (o : Option Int) : Option aV := match o with
  | some k => some (aI (.inl k))
  | none => none
def ghU (o : ghO) : aU := (ghR o.1, [], [], [])
def ghOut (i : Nat) (outs : List ghO) : List aU := (outs.filter (fun o => Nat.beq o.2 i)).map ghU
section
variable (JF : Nat → List cC → Prop) (mu : List cC → Nat) (WA : aW) (d : Nat) (M : eM) (outs : List ghO) (Ls : List ghL)
def OblG (l : ghL) : Prop := ∀ S : cS, aM TT [] l.1 S → J9 S.2.2.2 → JF l.2.1 S.2.2.2 → ∃ S2 : cS, Go (calF (Trm d)) M none S S2 ∧ Fr PT9 WA S.2.2.2 S2.2.2.2 ∧ J9 S2.2.2.2 ∧ ((∃ l2 ∈ Ls, aM TT [] l2.1 S2 ∧ JF l2.2.1 S2.2.2.2 ∧ lt3 (l2.2.2.1, mu S2.2.2.2, l2.2.2.2) (l.2.2.1, mu S.2.2.2, l.2.2.2)) ∨ ∃ r : Option cV, cEnd M S2 = some (r, S2.2.2.2) ∧ HG TT [] S2.2.2.2 ∧ ∃ o ∈ outs, retV [] (ghR o.1) r ∧ JF o.2 S2.2.2.2)
end
theorem OblG_all {JF : Nat → List cC → Prop} {mu : List cC → Nat} {WA : aW} {d : Nat} {M : eM} {outs : List ghO} {Ls : List ghL} (hO : ∀ l ∈ Ls, OblG JF mu WA d M outs Ls l) (m : Nat × Nat × Nat) : ∀ l : ghL, l ∈ Ls → ∀ S : cS, (l.2.2.1, mu S.2.2.2, l.2.2.2) = m → aM TT [] l.1 S → J9 S.2.2.2 → JF l.2.1 S.2.2.2 → ∃ (S2 : cS) (r : Option cV), Go (calF (Trm d)) M none S S2 ∧ Fr PT9 WA S.2.2.2 S2.2.2.2 ∧ J9 S2.2.2.2 ∧ cEnd M S2 = some (r, S2.2.2.2) ∧ HG TT [] S2.2.2.2 ∧ ∃ o ∈ outs, retV [] (ghR o.1) r ∧ JF o.2 S2.2.2.2 := by
  induction m using lt3_wf.induction with
  | _ m ih =>
    intro l hl S hm hS hJ hK
    obtain ⟨S2, g1, g2, g3, g4⟩ := hO l hl S hS hJ hK
    rcases g4 with ⟨l2, q1, q2, q3, q4⟩ | ⟨r, q1, q2, q3⟩
    · obtain ⟨S3, r, z1, z2, z3⟩ := ih _ (by rw [← hm]; exact q4) l2 q1 S2 rfl q2 g3 q3
      exact ⟨S3, r, g1.trans z1, Fr.tr (subW_rf WA) g2 z2, z3⟩
    · exact ⟨S2, r, g1, g2, g3, q1, q2, q3⟩
/-- a method without arguments -/
theorem G_of {JF : Nat → List cC → Prop} {mu : List cC → Nat} {WA : aW} {d : Nat} {mi : Nat} {N : eM} (hN : eMT[mi]? = some N) {outs : List ghO} {Ls : List ghL} {i p r : Nat} (hc : Nat.ble 1 (m_L N) = true) (hO : ∀ l ∈ (((0, [(0, .inl [170])], [], [], [], []), i, p, r) : ghL) :: Ls, OblG JF mu WA d N outs ((((0, [(0, .inl [170])], [], [], [], []), i, p, r) : ghL) :: Ls) l) {h : List cC} (hG : HG TT [] h) (hJ : J9 h) (hK : JF i h) : ∃ (r : Option cV) (h2 : List cC), Trm (d + 1) mi [cR 170] h r h2 ∧ HG TT [] h2 ∧ Fr PT9 WA h h2 ∧ J9 h2 ∧ ∃ o ∈ outs, retV [] (ghR o.1) r ∧ JF o.2 h2 := by
  obtain ⟨S2, r, z1, z2, z3, z4, z5, z6⟩ := OblG_all hO _ (((0, [(0, .inl [170])], [], [], [], []), i, p, r) : ghL) List.mem_cons_self (0, [(0, cR 170)], [], h) rfl ⟨rfl, hG, [], bnil, ⟨List.prefix_rfl, fun q hq => by cases hq⟩, (fun q hq => by
    have e := List.mem_singleton.mp hq
    subst e
    exact ⟨cR 170, rfl, 170, List.mem_singleton.mpr rfl, rfl⟩), trivial, (fun q hq => by cases hq)⟩ hJ hK
  exact ⟨r, S2.2.2.2, Trm_succ.mpr ⟨N, S2, hN, Nat.le_of_ble_eq_true hc, z1, z4⟩, z5, z2, z3, z6⟩
/-- a stretch that the checker walks -/
theorem G_seg {JF : Nat → List cC → Prop} {mu : List cC → Nat} {WA WS : aW} {l : ghL} (hfr : ∀ h h2 : List cC, HG TT [] h → Fr PT9 WS h h2 → JF l.2.1 h → JF l.2.1 h2) (hmu : ∀ h h2 : List cC, HG TT [] h → Fr PT9 WS h h2 → mu h2 = mu h) (hsub : subW WS WA = true) {d : Nat} {qc : aQ} (hQ : Qok P9 WS d qc) {M : eM} {outs : List ghO} {Ls : List ghL} {fuel : Nat} (h : chkL P39 WS qc M 0 (ghSel l.2.1 Ls) (ghOut l.2.1 outs) fuel (ghA l) = true) : OblG JF mu WA d M outs Ls l := by
  intro S hS hJ hK
  obtain ⟨e1, hG, ρ, hB, hR, hL, hSt, hF⟩ := hS
  obtain ⟨S2, g1, g2, g3⟩ := chkL_ok (P := P9) J9_ok hQ (l := ghA l) h [] rfl S.2.2.2 ρ S e1 hG hB hR hL hSt hF ⟨Fr.rf, hJ⟩
  have hF2 : Fr PT9 WS S.2.2.2 S2.2.2.2 := g2.1
  refine ⟨S2, g1, Fr.tr hsub Fr.rf hF2, g2.2, ?_⟩
  rcases g3 with ⟨l2, q1, ρ2, q2, q3, q4, q5, q6, q7, q8, q9⟩ | ⟨r, q1, q2, o, o1, ρ', o2, o3, o4, o5⟩
  · obtain ⟨l3, y1, y2⟩ := List.mem_map.mp q1
    obtain ⟨y3, y4⟩ := List.mem_filter.mp y1
    subst y2
    have e := nbeq_t y4
    refine Or.inl ⟨l3, y3, ⟨q2, q3, ρ2, q4, q5, q6, q7, q8⟩, by rw [e]; exact hfr _ _ hG hF2 hK, ?_⟩
    rw [hmu _ _ hG hF2]
    have q9 : lt3 (l3.2.2.1, l3.2.2.2, 0) (l.2.2.1, l.2.2.2, 0) := q9
    obtain ⟨a1, a2, a3, a4⟩ := l3
    obtain ⟨b1, b2, b3, b4⟩ := l
    dsimp only at q9 ⊢
    rcases (Prod.lex_def ..).mp q9 with h | ⟨h1, h⟩
    · exact Prod.Lex.left _ _ h
    · have h1 : a3 = b3 := h1
      subst h1
      refine Prod.Lex.right _ (Prod.Lex.right _ ?_)
      rcases (Prod.lex_def ..).mp h with h | ⟨_, h⟩
      · exact h
      · exact absurd (show (0 : Nat) < 0 from h) (Nat.lt_irrefl 0)
  · obtain ⟨o9, y1, y2⟩ := List.mem_map.mp o1
    obtain ⟨y3, y4⟩ := List.mem_filter.mp y1
    subst y2
    have e := nbeq_t y4
    refine Or.inr ⟨r, q1, q2, o9, y3, ?_, by rw [e]; exact hfr _ _ hG hF2 hK⟩
    obtain ⟨ok, oi⟩ := o9
    cases ok with
    | none =>
      have o5 : retV ρ' none r := o5
      cases r with
      | none => exact o5
      | some v => exact o5.elim
    | some k =>
      have o5 : retV ρ' (some (aI (.inl k))) r := o5
      cases r with
      | none => exact o5.elim
      | some v => exact o5
/-- a call by hand: its outcomes are a number, an index, and what becomes of the measure: 0 nothing is said, 1 no greater, 2 less -/
abbrev ghC : Type := Option Int × Nat × Nat
def ghLt (k : Nat) (l2 l : ghL) : Bool := Nat.ble (l2.2.2.1 + 1) l.2.2.1 || (Nat.beq l2.2.2.1 l.2.2.1 && (Nat.beq k 2 || (Nat.beq k 1 && Nat.ble (l2.2.2.2 + 1) l.2.2.2)))
def toG (A b : aS) : Bool := sub (sgO 0 A b 0 A.2.2.2.2.1) 0 A b
def chkC (M : eM) (Ls : List ghL) (mi : Nat) (couts : List ghC) (l : ghL) : Bool := match fnd (m_il M) l.1.1, eMT[mi]? with
  | some (.invokevirtual idx, 3), some N => (match fnd (mTab.getD (m_o M) []) idx with
    | some (2, mj) => Nat.beq mj mi && (Nat.ble (1 + m_n N) l.1.2.2.1.length && (Nat.ble (acat (l.1.2.2.1.drop (1 + m_n N))) 8 && (arec TT 2 (m_o N) (l.1.2.2.1.take (1 + m_n N)).reverse && couts.all (fun o => Ls.any (fun l2 => Nat.beq l2.2.1 o.2.1 && (ghLt o.2.2 l2 l && toG l2.1 (l.1.1 + 3, l.1.2.1, (ghR o.1).toList ++ l.1.2.2.1.drop (1 + m_n N), [], l.1.2.2.2.2.1, [])))))))
    | _ => false)
  | _, _ => false
theorem gh_inv {d mi idx : Nat} {M N : eM} {pc : Nat} {ls : List (Nat × cV)} {st : List cV} {h h2 : List cC} {r : Option cV} (hf : fnd (m_il M) pc = some (.invokevirtual idx, 3)) (ht : fnd (mTab.getD (m_o M) []) idx = some (2, mi)) (hN : eMT[mi]? = some N) (hl : Nat.ble (1 + m_n N) st.length = true) (hc : Nat.ble (catC (st.drop (1 + m_n N))) 8 = true) (hr : recC h (m_o N) (st.take (1 + m_n N)).reverse = true) (hT : Trm d mi (st.take (1 + m_n N)).reverse h r h2) : cOne (calF (Trm d)) M none (pc, ls, st, h) = some (pc + 3, ls, r.toList ++ st.drop (1 + m_n N), h2) := o_step hf (by
  show kInv (calF (Trm d)) M 2 idx 3 pc ls st h = _
  unfold kInv
  rw [ht]
  dsimp only
  rw [hN]
  dsimp only
  have e1 : rc 2 = 1 := rfl
  have hcond : (Nat.beq 3 3 && ((Nat.beq 2 2 || Nat.beq 2 (2 + 3)) && (Nat.ble (rc 2 + m_n N) st.length && (Nat.ble (catC (st.drop (rc 2 + m_n N))) 8 && recCk 2 h (m_o N) (st.take (rc 2 + m_n N)).reverse)))) = true := by
    rw [e1, hl, hc]
    show (true && (true && (true && (true && recC h (m_o N) (st.take (1 + m_n N)).reverse)))) = true
    rw [hr]
    rfl
  show (match (Nat.beq 3 3 && ((Nat.beq 2 2 || Nat.beq 2 (2 + 3)) && (Nat.ble (rc 2 + m_n N) st.length && (Nat.ble (catC (st.drop (rc 2 + m_n N))) 8 && recCk 2 h (m_o N) (st.take (rc 2 + m_n N)).reverse)))) with
    | true => (match calF (Trm d) mi (st.take (rc 2 + m_n N)).reverse h with
      | some (r, h2) => some (pc + 3, ls, r.toList ++ st.drop (rc 2 + m_n N), h2)
      | none => none)
    | false => none) = _
  rw [hcond]
  dsimp only
  rw [e1, cal_eq hT])
theorem G_call {JF : Nat → List cC → Prop} {mu : List cC → Nat} {WA : aW} {d : Nat} {M : eM} {outs : List ghO} {Ls : List ghL} {mi : Nat} {N : eM} (hN : eMT[mi]? = some N) {couts : List ghC} {l : ghL} (hk : chkC M Ls mi couts l = true) (hc : ∀ (h : List cC) (ρ : List Int) (vs : List cV), HG TT [] h → J9 h → JF l.2.1 h → okB ρ l.1.2.2.2.2.1 → okF ρ l.1.2.2.2.1 h → okS ρ (l.1.2.2.1.take (1 + m_n N)).reverse vs → ∃ (r : Option cV) (h2 : List cC), Trm d mi vs h r h2 ∧ HG TT [] h2 ∧ Fr PT9 WA h h2 ∧ J9 h2 ∧ ∃ o ∈ couts, retV [] (ghR o.1) r ∧ JF o.2.1 h2 ∧ (o.2.2 = 1 → mu h2 ≤ mu h) ∧ (o.2.2 = 2 → mu h2 < mu h)) : OblG JF mu WA d M outs Ls l := by
  intro S hS hJ hK
  obtain ⟨Spc, Sls, Sst, Sh⟩ := S
  obtain ⟨e1, hG, ρ, hB, hR, hL, hSt, hF⟩ := hS
  dsimp only at e1 hG hB hR hL hSt hF hJ hK
  unfold chkC at hk
  rw [hN] at hk
  split at hk
  · rename_i idx N' hf hN'
    cases hN'
    split at hk
    · rename_i mj hm
      obtain ⟨k1, hk⟩ := and_inv hk
      obtain ⟨k2, hk⟩ := and_inv hk
      obtain ⟨k3, hk⟩ := and_inv hk
      obtain ⟨k4, k5⟩ := and_inv hk
      have e := nbeq_t k1
      subst e
      have hargs := okS_rev (okS_take (n := 1 + m_n N) hSt)
      have hrest := okS_drop (n := 1 + m_n N) hSt
      obtain ⟨r, h2, t1, t2, t3, t4, o, o1, o2, o3, o4, o5⟩ := hc Sh ρ _ hG hJ hK hB hF hargs
      obtain ⟨l2, p1, p2⟩ := List.any_eq_true.mp (List.all_eq_true.mp k5 o o1)
      obtain ⟨p2, p3⟩ := and_inv p2
      obtain ⟨p3, p4⟩ := and_inv p3
      have e2 := nbeq_t p2
      have hrec : recC Sh (m_o N) (Sst.take (1 + m_n N)).reverse = true := arec_ok hG hargs k4
      refine ⟨(Spc + 3, Sls, r.toList ++ Sst.drop (1 + m_n N), h2), Go.step (gh_inv (by rw [e1]; exact hf) hm hN (by rw [← okS_len hSt]; exact k2) (by rw [acat_ok hrest]; exact k3) hrec t1) Go.rf, t3, t4, Or.inl ⟨l2, p1, ?_, by rw [e2]; exact o3, ?_⟩⟩
      · have hr : okS ρ (ghR o.1).toList r.toList := by
          cases hro : ghR o.1 with
          | none =>
            rw [hro] at o2
            cases r with
            | none => exact trivial
            | some v => exact o2.elim
          | some x =>
            rw [hro] at o2
            cases r with
            | none => exact o2.elim
            | some v => exact ⟨vV_mono List.nil_prefix o2, trivial⟩
        unfold toG at p4
        obtain ⟨s1, s2, s3, s4, s5, s6, s7, s8⟩ := sub_ok (T := TT) (ρ0 := []) p4 (S := (Spc + 3, Sls, r.toList ++ Sst.drop (1 + m_n N), h2)) (by dsimp only; rw [e1]) t2 hB ⟨List.nil_prefix, fun q hq => by cases hq⟩ hL (okS_app hr hrest) (fun q hq => by cases hq)
        exact ⟨s1, s2, _, s3, s4, s5, s6, s7⟩
      · unfold ghLt at p3
        rcases Bool.or_eq_true _ _ ▸ p3 with p3 | p3
        · exact Prod.Lex.left _ _ (Nat.le_of_ble_eq_true p3)
        · obtain ⟨p5, p6⟩ := and_inv p3
          have e3 := nbeq_t p5
          rw [e3]
          refine Prod.Lex.right _ ?_
          rcases Bool.or_eq_true _ _ ▸ p6 with p6 | p6
          · exact Prod.Lex.left _ _ (o5 (nbeq_t p6))
          · obtain ⟨p7, p8⟩ := and_inv p6
            have hle := o4 (nbeq_t p7)
            by_cases hlt : mu h2 < mu Sh
            · exact Prod.Lex.left _ _ hlt
            · have e4 : mu h2 = mu Sh := by omega
              dsimp only
              rw [e4]
              exact Prod.Lex.right _ (Nat.le_of_ble_eq_true p8)
    · cases hk
  · cases hk
/-- a field that is known besides -/
theorem G_know {JF : Nat → List cC → Prop} {mu : List cC → Nat} {WA : aW} {d : Nat} {M : eM} {outs : List ghO} {Ls : List ghL} {pc : Nat} {als : List (Nat × aV)} {ast : List aV} {B : List eP} {i p r i2 r2 j : Nat} {q : eP} (hm : (((pc, als, ast, [(170, j, aI (xs B.length))], B ++ [q], []), i2, p, r2) : ghL) ∈ Ls) (hr : r2 < r) (hc : ∀ h : List cC, HG TT [] h → JF i h → JF i2 h ∧ ∃ x : Int32, fI h 170 j = some x ∧ bt2 q x.toInt) : OblG JF mu WA d M outs Ls ((pc, als, ast, [], B, []), i, p, r) := by
  intro S hS hJ hK
  obtain ⟨e1, hG, ρ, hB, hR, hL, hSt, hF⟩ := hS
  dsimp only at e1 hB hR hL hSt hK
  obtain ⟨k1, x, k2, k3⟩ := hc _ hG hK
  obtain ⟨ci, vs, k4, k5⟩ := fI_inv k2
  have hp : ρ <+: ρ ++ [x.toInt] := List.prefix_append _ _
  refine ⟨S, Go.rf, Fr.rf, hJ, Or.inl ⟨_, hm, ⟨e1, hG, ρ ++ [x.toInt], okB_app hB (bcons k3 bnil), ⟨List.nil_prefix, fun q hq => by cases hq⟩, okL_mono hp hL, okS_mono hp hSt, fun q hq => ?_⟩, k1, Prod.Lex.right _ (Prod.Lex.right _ hr)⟩⟩
  have e := List.mem_singleton.mp hq
  subst e
  refine ⟨ci, vs, cI x, k4, k5, vxs ?_⟩
  rw [← hB.1, List.getElem?_append_right (Nat.le_refl _), Nat.sub_self]
  rfl
