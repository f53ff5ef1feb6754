/-! THE CHECKER, 22: calls, and all ways of a method -/
theorem okS_len {ρ : List Int} : ∀ {as : List aV} {vs : List cV}, okS ρ as vs → as.length = vs.length
  | [], [], _ => rfl
  | _ :: _, _ :: _, g => congrArg (· + 1) (okS_len g.2)
  | [], _ :: _, g => g.elim
  | _ :: _, [], g => g.elim
theorem okS_take {ρ : List Int} : ∀ {n : Nat} {as : List aV} {vs : List cV}, okS ρ as vs → okS ρ (as.take n) (vs.take n)
  | 0, _, _, _ => trivial
  | _ + 1, [], [], _ => trivial
  | n + 1, _ :: _, _ :: _, g => ⟨g.1, okS_take (n := n) g.2⟩
  | _ + 1, [], _ :: _, g => g.elim
  | _ + 1, _ :: _, [], g => g.elim
theorem okS_drop {ρ : List Int} : ∀ {n : Nat} {as : List aV} {vs : List cV}, okS ρ as vs → okS ρ (as.drop n) (vs.drop n)
  | 0, _, _, g => g
  | _ + 1, [], [], _ => trivial
  | n + 1, _ :: _, _ :: _, g => okS_drop (n := n) g.2
  | _ + 1, [], _ :: _, g => g.elim
  | _ + 1, _ :: _, [], g => g.elim
theorem okS_app {ρ : List Int} : ∀ {as bs : List aV} {vs us : List cV}, okS ρ as vs → okS ρ bs us → okS ρ (as ++ bs) (vs ++ us)
  | [], _, [], _, _, g2 => g2
  | _ :: _, _, _ :: _, _, g, g2 => ⟨g.1, okS_app g.2 g2⟩
  | [], _, _ :: _, _, g, _ => g.elim
  | _ :: _, _, [], _, g, _ => g.elim
theorem okS_rev {ρ : List Int} : ∀ {as : List aV} {vs : List cV}, okS ρ as vs → okS ρ as.reverse vs.reverse
  | [], [], _ => trivial
  | a :: as, v :: vs, g => by
    rw [List.reverse_cons, List.reverse_cons]
    exact okS_app (okS_rev g.2) ⟨g.1, trivial⟩
  | [], _ :: _, g => g.elim
  | _ :: _, [], g => g.elim
/-- an outcome of a call: its answer, the fields known, bounds, what is known -/
abbrev aU : Type := Option aV × List (Nat × Nat × aV) × List eP × List aR
abbrev aQ : Type := Nat → List aV → List (Nat × Nat × aV) → List eP → List aR → Option (List aU)
def retV (ρ : List Int) (r : Option aV) (v : Option cV) : Prop := match r, v with
  | none, none => True
  | some a, some u => vV ρ a u
  | _, _ => False
/-- what is said of calls is good, down to this depth -/
def Qok (P : aP) (W : aW) (d : Nat) (qc : aQ) : Prop := ∀ (mi : Nat) (as : List aV) (F : List (Nat × Nat × aV)) (B : List eP) (R : List aR) (outs : List aU), qc mi as F B R = some outs → ∀ (w ρ : List Int) (vs : List cV) (h0 h : List cC), HG P.1 [] h → okB ρ B → okR w ρ h R → okS ρ as vs → okF ρ F h → Kp P W h0 h → ∃ (r : Option cV) (h2 : List cC), Trm d mi vs h r h2 ∧ HG P.1 [] h2 ∧ Kp P W h0 h2 ∧ ∃ o ∈ outs, ∃ ρ' : List Int, ρ <+: ρ' ∧ okB ρ' o.2.2.1 ∧ okR w ρ' h2 o.2.2.2 ∧ okF ρ' o.2.1 h2 ∧ retV ρ' o.1 r
def arec (T : List tT) (k oc : Nat) (as : List aV) : Bool := match k with
  | 0 => true
  | 1 => (match as with
    | .inl _ :: _ => true
    | _ => false)
  | _ => (match as with
    | .inl ks :: _ => ks.all (fun j => match T[j]? with
      | some (.inl (ci, _)) => Nat.beq ci oc && Nat.ble (ci + 1) 13
      | _ => false)
    | .inr (.inr (.inr n)) :: _ => Nat.beq n (2 * (n / 2) + 1) && (Nat.ble (n / 2 + 1) nS && Nat.beq oc 14)
    | _ => false)
theorem arec_ok {T : List tT} {h : List cC} (hG : HG T [] h) {ρ : List Int} {k oc : Nat} {as : List aV} {vs : List cV} (hs : okS ρ as vs) (ha : arec T k oc as = true) : recCk k h oc vs = true := by
  unfold arec at ha
  unfold recCk
  split at ha
  · rfl
  · split at ha
    · obtain ⟨v, vs1, e1, ⟨j, _, e2⟩, _⟩ := okS_cons hs
      subst e2 e1
      rfl
    · cases ha
  · rename_i k0 n0 n1
    split
    · exact absurd rfl n0
    · exact absurd rfl n1
    · split at ha
      · obtain ⟨v, vs1, e1, ⟨j, hj, e2⟩, _⟩ := okS_cons hs
        subst e2 e1
        have hc := List.all_eq_true.mp ha j hj
        split at hc
        · rename_i ci ts hT
          obtain ⟨c, h1, us, h2, h3⟩ := hG.2 j _ hT
          unfold recC
          dsimp only
          rw [h1, h2]
          exact hc
        · cases hc
      · obtain ⟨v, vs1, e1, e2, _⟩ := okS_cons hs
        have e2 : v = cO _ := e2
        subst e2 e1
        exact ha
      · cases ha
def outS (pc : Nat) (ls : List (Nat × aV)) (st : List aV) (o : aU) : aS := (pc, ls, o.1.toList ++ st, o.2.1, o.2.2.1, o.2.2.2)
def cpW (PT : List (Nat × sG)) (IR : List Nat) (W : aW) (a : aS) : Bool := match a.2.2.1 with
  | _ :: _ :: .inl ks :: _ => ks.all (fun k => inW W k 1000 && (noI IR k && pNo PT k))
  | _ => false
def qInv (P : aP3) (W : aW) (qc : aQ) (M : eM) (k : Nat) (idx : Nat) (len : Nat) (a : aS) : Option (List aS) := match fnd (mTab.getD (m_o M) []) idx with
  | some (kd, mi) => (match Nat.beq kd 7 && Nat.beq k 0 with
    | true => (match cpW P.2.1 P.2.2 W a with
      | true => qCpy P.1 len a
      | false => none)
    | false => (match Nat.beq kd 8 && Nat.beq k 0 with
      | true => qMathR gMax (fun x y t => geR x t ++ geR y t) len a
      | false => (match Nat.beq kd 9 && Nat.beq k 0 with
        | true => qMathR gMin (fun x y t => leR x t ++ leR y t) len a
        | false => (match eMT[mi]? with
          | some N => (match a with
            | (pc, ls, st, F, B, R) => (match Nat.beq len 3 && ((Nat.beq kd k || Nat.beq kd (k + 3)) && (Nat.ble (rc k + m_n N) st.length && (Nat.ble (acat (st.drop (rc k + m_n N))) 8 && arec P.1 k (m_o N) (st.take (rc k + m_n N)).reverse))) with
              | true => (match qc mi (st.take (rc k + m_n N)).reverse F B R with
                | some outs => some (outs.map (outS (pc + 3) ls (st.drop (rc k + m_n N))))
                | none => none)
              | false => none))
          | none => none))))
  | none => none
theorem qInv_ok {P : aP} {W : aW} (hJ : pJ P) {d : Nat} {qc : aQ} (hQ : Qok P W d qc) {w : List Int} {M : eM} {k idx len : Nat} {a : aS} {as : List aS} (h : qInv (p3 P) W qc M k idx len a = some as) {S : cS} (hS : aM P.1 w a S) {h0 : List cC} (g : Kp P W h0 S.2.2.2) : ∃ S2 : cS, kInv (calF (Trm d)) M k idx len S.1 S.2.1 S.2.2.1 S.2.2.2 = some S2 ∧ ∃ a2 ∈ as, aM P.1 w a2 S2 ∧ Kp P W h0 S2.2.2.2 := by
  unfold qInv at h
  unfold kInv
  split at h
  · rename_i kd mi hf
    rw [hf]
    dsimp only
    split at h
    · rename_i h7
      rw [h7]
      dsimp only
      split at h
      · rename_i hw
        obtain ⟨S2, z1, a2, z2, z3⟩ := qCpy_ok (w := w) h S hS
        refine ⟨S2, z1, a2, z2, z3, ?_⟩
        obtain ⟨n, dp, sp, kd', ks, n0, n1, est, _, _, _, _, _, _, z4⟩ := kCpy_inv z1
        obtain ⟨e1, hG, ρ, hB, hR, hL, hSt, hF⟩ := hS
        obtain ⟨Spc, Sls, Sst, Sh⟩ := S
        dsimp only at est hSt z4 g
        subst est
        unfold cpW at hw
        split at hw
        · rename_i x1 x2 ks2 x3 hst
          rw [hst] at hSt
          obtain ⟨v1, vs1, r1, hv1, hS1⟩ := okS_cons hSt
          obtain ⟨v2, vs2, r2, hv2, hS2⟩ := okS_cons hS1
          obtain ⟨v3, vs3, r5, ⟨k', hk, r6⟩, hS3⟩ := okS_cons hS2
          cases r1
          cases r2
          cases r5
          cases r6
          obtain ⟨w1, w2⟩ := and_inv (List.all_eq_true.mp hw _ hk)
          obtain ⟨w2, w3⟩ := and_inv w2
          rcases z4 with ⟨f0, f1, z5, z6, rfl⟩ | ⟨f0, f1, z5, z6, rfl⟩
          · exact Kp_set hJ g z6 ⟨_, rfl, fun hj => inW_ne w1 hj, pNo_stay w3 _ _⟩ w2
          · exact Kp_set hJ g z6 ⟨_, rfl, fun hj => inW_ne w1 hj⟩ w2
        · cases hw
      · cases h
    · rename_i h7
      rw [h7]
      dsimp only
      split at h
      · rename_i h8
        rw [h8]
        dsimp only
        obtain ⟨S2, z1, a2, z2, z3⟩ := sn_maxR (w := w) (T := P.1) h S hS
        refine ⟨S2, z1, a2, z2, z3, ?_⟩
        obtain ⟨x, y, st2, _, _, _, e⟩ := kMath_inv z1
        rw [e]
        exact g
      · rename_i h8
        rw [h8]
        dsimp only
        split at h
        · rename_i h9
          rw [h9]
          dsimp only
          obtain ⟨S2, z1, a2, z2, z3⟩ := sn_minR (w := w) (T := P.1) h S hS
          refine ⟨S2, z1, a2, z2, z3, ?_⟩
          obtain ⟨x, y, st2, _, _, _, e⟩ := kMath_inv z1
          rw [e]
          exact g
        · rename_i h9
          rw [h9]
          dsimp only
          split at h
          · rename_i N hN
            rw [hN]
            dsimp only
            split at h
            · rename_i pc ls st F B R
              split at h
              · rename_i hc
                obtain ⟨c1, c2⟩ := and_inv hc
                obtain ⟨c2, c3⟩ := and_inv c2
                obtain ⟨c3, c4⟩ := and_inv c3
                obtain ⟨c4, c5⟩ := and_inv c4
                split at h
                · rename_i outs ho
                  cases h
                  obtain ⟨e1, hG, ρ, hB, hR, hL, hSt, hF⟩ := hS
                  obtain ⟨Spc, Sls, Sst, Sh⟩ := S
                  dsimp only at e1 hG hB hR hL hSt hF g ⊢
                  have hargs := okS_rev (okS_take (n := rc k + m_n N) hSt)
                  have hrest := okS_drop (n := rc k + m_n N) hSt
                  obtain ⟨r, h2, t1, t2, t3, o, o1, ρ', o2, o3, o4, o5, o6⟩ := hQ mi _ F B R outs ho w ρ _ h0 Sh hG hB hR hargs hF g
                  have hcond : (Nat.beq len 3 && ((Nat.beq kd k || Nat.beq kd (k + 3)) && (Nat.ble (rc k + m_n N) Sst.length && (Nat.ble (catC (Sst.drop (rc k + m_n N))) 8 && recCk k Sh (m_o N) (Sst.take (rc k + m_n N)).reverse)))) = true := by
                    rw [c1, c2, ← okS_len hSt, c3, acat_ok hrest, c4, arec_ok hG hargs c5]
                    rfl
                  rw [hcond]
                  dsimp only
                  rw [cal_eq t1]
                  dsimp only
                  refine ⟨_, rfl, outS (pc + 3) ls (st.drop (rc k + m_n N)) o, List.mem_map.mpr ⟨o, o1, rfl⟩, ⟨by rw [e1]; rfl, t2, ρ', o3, o4, okL_mono o2 hL, ?_, o5⟩, t3⟩
                  have hr : okS ρ' o.1.toList r.toList := by
                    cases hro : o.1 with
                    | none =>
                      rw [hro] at o6
                      cases r with
                      | none => exact trivial
                      | some v => exact o6.elim
                    | some x =>
                      rw [hro] at o6
                      cases r with
                      | none => exact o6.elim
                      | some v => exact ⟨o6, trivial⟩
                  exact okS_app hr (okS_mono o2 hrest)
                · cases h
              · cases h
          · cases h
  · cases h
def stpF (P : aP3) (W : aW) (qc : aQ) (M : eM) (a : aS) : Option (List aS) := match fnd (m_il M) a.1 with
  | some (ins, len) => (match ins with
    | .invokestatic i => qInv P W qc M 0 i len a
    | .invokespecial i => qInv P W qc M 1 i len a
    | .invokevirtual i => qInv P W qc M 2 i len a
    | _ => (match wOK P.2.1 P.2.2 W M ins a with
      | true => qOne P.1 M ins len a
      | false => none))
  | none => none
theorem stpF_ok {P : aP} {W : aW} (hJ : pJ P) {d : Nat} {qc : aQ} (hQ : Qok P W d qc) {w : List Int} {M : eM} {a : aS} {as : List aS} (h : stpF (p3 P) W qc M a = some as) {S : cS} (hS : aM P.1 w a S) {h0 : List cC} (g : Kp P W h0 S.2.2.2) : ∃ S2 : cS, cOne (calF (Trm d)) M none S = some S2 ∧ ∃ a2 ∈ as, aM P.1 w a2 S2 ∧ Kp P W h0 S2.2.2.2 := by
  unfold stpF at h
  unfold cOne
  split at h
  · rename_i ins len hf
    rw [hS.1, hf]
    dsimp only
    have e1 := hS.1
    split at h
    · rename_i i
      obtain ⟨S2, z1, z2⟩ := qInv_ok hJ hQ h hS g
      exact ⟨S2, by rw [e1] at z1; exact z1, z2⟩
    · rename_i i
      obtain ⟨S2, z1, z2⟩ := qInv_ok hJ hQ h hS g
      exact ⟨S2, by rw [e1] at z1; exact z1, z2⟩
    · rename_i i
      obtain ⟨S2, z1, z2⟩ := qInv_ok hJ hQ h hS g
      exact ⟨S2, by rw [e1] at z1; exact z1, z2⟩
    · split at h
      · rename_i hw
        obtain ⟨S2, z1, a2, z2, z3⟩ := qOne_ok (w := w) (call := calF (Trm d)) (sc := none) h S hS
        have z4 := kept hJ hS z1 hw g
        exact ⟨S2, by rw [e1] at z1; exact z1, a2, z2, z3, z4⟩
      · cases h
  · cases h
def explF (P : aP3) (W : aW) (qc : aQ) (M : eM) (stop : Nat → Bool) : Nat → aS → Option (List aS)
  | 0, _ => none
  | n + 1, a => match stop a.1 with
    | true => some [a]
    | false => (match stpF P W qc M a with
      | some as => lift (explF P W qc M stop n) as
      | none => none)
theorem explF_ok {P : aP} {W : aW} (hJ : pJ P) {d : Nat} {qc : aQ} (hQ : Qok P W d qc) {w : List Int} {M : eM} {stop : Nat → Bool} {h0 : List cC} : ∀ {n : Nat} {a : aS} {l : List aS}, explF (p3 P) W qc M stop n a = some l → ∀ {S : cS}, aM P.1 w a S → Kp P W h0 S.2.2.2 → ∃ S2 : cS, Go (calF (Trm d)) M none S S2 ∧ ∃ b ∈ l, aM P.1 w b S2 ∧ Kp P W h0 S2.2.2.2 ∧ stop b.1 = true
  | 0, a, l, h, S, hS, _ => by cases h
  | n + 1, a, l, h, S, hS, g => by
    unfold explF at h
    split at h
    · rename_i hst
      cases h
      exact ⟨S, Go.rf, a, List.mem_singleton.mpr rfl, hS, g, hst⟩
    · split at h
      · rename_i as has
        obtain ⟨S1, h1, a1, h2, h3, h4⟩ := stpF_ok hJ hQ has hS g
        obtain ⟨x, h5, h6⟩ := lift_mem h a1 h2
        obtain ⟨S2, h7, b, h8, h9, h10, h11⟩ := explF_ok hJ hQ h5 h3 h4
        exact ⟨S2, Go.step h1 h7, b, h6 b h8, h9, h10, h11⟩
      · cases h
def isRt (M : eM) (pc : Nat) : Bool := match fnd (m_il M) pc with
  | some (.return_, _) => true
  | some (.ireturn, _) => true
  | some (.lreturn, _) => true
  | _ => false
def aEnd (M : eM) (b : aS) : Option aU := match b with
  | (pc, _, st, F, B, R) => (match fnd (m_il M) pc with
    | some (.return_, 1) => (match st, m_t M with
      | [], none => some (none, F, B, R)
      | _, _ => none)
    | some (.ireturn, 1) => (match st, m_t M with
      | [.inr (.inl x)], some .int => some (some (aI x), F, B, R)
      | [.inr (.inl x)], some .boolean => (match iLe 0 (xb B x).1 && iLe (xb B x).2 1 with
        | true => some (some (aI x), F, B, R)
        | false => none)
      | [.inr (.inl x)], some .byte => (match iLe (-128) (xb B x).1 && iLe (xb B x).2 127 with
        | true => some (some (aI x), F, B, R)
        | false => none)
      | [.inr (.inl x)], some .char => (match iLe 0 (xb B x).1 && iLe (xb B x).2 65535 with
        | true => some (some (aI x), F, B, R)
        | false => none)
      | _, _ => none)
    | some (.lreturn, 1) => (match st, m_t M with
      | [.inr (.inr (.inl x))], some .long => some (some (aJ x), F, B, R)
      | _, _ => none)
    | _ => none)
theorem aEnd_ok {T : List tT} {w : List Int} {M : eM} {b : aS} {o : aU} (h : aEnd M b = some o) {S : cS} (hS : aM T w b S) : ∃ r : Option cV, cEnd M S = some (r, S.2.2.2) ∧ ∃ ρ' : List Int, okB ρ' o.2.2.1 ∧ okR w ρ' S.2.2.2 o.2.2.2 ∧ okF ρ' o.2.1 S.2.2.2 ∧ retV ρ' o.1 r := by
  obtain ⟨e1, hG, ρ, hB, hR, hL, hSt, hF⟩ := hS
  obtain ⟨Spc, Sls, Sst, Sh⟩ := S
  obtain ⟨pc, ls, st, F, B, R⟩ := b
  dsimp only at e1 hG hB hR hL hSt hF ⊢
  subst e1
  unfold aEnd at h
  unfold cEnd
  dsimp only at h ⊢
  split at h
  · rename_i hf
    rw [hf]
    split at h
    · rename_i ht
      cases h
      have e2 : Sst = [] := by
        cases Sst with
        | nil => rfl
        | cons _ _ => exact hSt.elim
      subst e2
      rw [ht]
      exact ⟨none, rfl, ρ, hB, hR, hF, trivial⟩
    · cases h
  · rename_i hf
    rw [hf]
    have one : ∀ x : aX, st = [.inr (.inl x)] → ∃ y : Int32, Sst = [cI y] ∧ xv ρ x y.toInt := fun x e => by
      subst e
      obtain ⟨v, vs, e2, ⟨y, e3, hy⟩, e4⟩ := okS_cons hSt
      have e5 : vs = [] := by
        cases vs with
        | nil => rfl
        | cons _ _ => exact e4.elim
      subst e5 e3 e2
      exact ⟨y, rfl, hy⟩
    split at h
    · rename_i x ht
      cases h
      obtain ⟨y, e2, hy⟩ := one x rfl
      subst e2
      rw [ht]
      exact ⟨some (cI y), rfl, ρ, hB, hR, hF, y, rfl, hy⟩
    · rename_i x ht
      split at h
      · rename_i hc
        cases h
        obtain ⟨y, e2, hy⟩ := one x rfl
        subst e2
        rw [ht]
        dsimp only
        simp only [Bool.and_eq_true, iLe_ok] at hc
        have hb := xb_ok hB hy
        have b1 := hb.1
        have b2 := hb.2
        have hy01 : y = 0 ∨ y = 1 := by
          rcases (show y.toInt = 0 ∨ y.toInt = 1 by omega) with e | e
          · exact Or.inl (Int32.toInt_inj.mp e)
          · exact Or.inr (Int32.toInt_inj.mp e)
        rw [decide_eq_true hy01]
        exact ⟨some (cI y), rfl, ρ, hB, hR, hF, y, rfl, hy⟩
      · cases h
    · rename_i x ht
      split at h
      · rename_i hc
        cases h
        obtain ⟨y, e2, hy⟩ := one x rfl
        subst e2
        rw [ht]
        dsimp only
        simp only [Bool.and_eq_true, iLe_ok] at hc
        have hb := xb_ok hB hy
        have b1 := hb.1
        have b2 := hb.2
        have hy8 : y.toInt8.toInt32 = y := by
          apply Int32.toInt_inj.mp
          rw [Int8.toInt_toInt32, Int32.toInt_toInt8]
          show y.toInt.bmod 256 = y.toInt
          rw [Int.bmod_def]
          split <;> omega
        rw [decide_eq_true hy8]
        exact ⟨some (cI y), rfl, ρ, hB, hR, hF, y, rfl, hy⟩
      · cases h
    · rename_i x ht
      split at h
      · rename_i hc
        cases h
        obtain ⟨y, e2, hy⟩ := one x rfl
        subst e2
        rw [ht]
        dsimp only
        simp only [Bool.and_eq_true, iLe_ok] at hc
        have hb := xb_ok hB hy
        have b1 := hb.1
        have b2 := hb.2
        have hyc : (y.toUInt32 % 65536).toInt32 = y := by
          apply Int32.toInt_inj.mp
          have h1 := pos_nat (x := y) (by omega)
          have h2 : (y.toUInt32 % 65536).toInt32.toBitVec.toNat = y.toBitVec.toNat % 65536 := by
            show (y.toUInt32 % 65536).toNat = _
            rw [UInt32.toNat_mod]
            rfl
          have h3 : y.toBitVec.toNat % 65536 = y.toBitVec.toNat := Nat.mod_eq_of_lt (by rw [h1.1]; omega)
          rw [nat_pos (by rw [h2, h3]; omega), h2, h3, ← nat_pos (by omega)]
        rw [decide_eq_true hyc]
        exact ⟨some (cI y), rfl, ρ, hB, hR, hF, y, rfl, hy⟩
      · cases h
    · cases h
  · rename_i hf
    rw [hf]
    split at h
    · rename_i x ht
      cases h
      obtain ⟨v, vs, e2, ⟨y, e3, hy⟩, e4⟩ := okS_cons hSt
      have e5 : vs = [] := by
        cases vs with
        | nil => rfl
        | cons _ _ => exact e4.elim
      subst e5 e3 e2
      rw [ht]
      exact ⟨some (cJ y), rfl, ρ, hB, hR, hF, y, rfl, hy⟩
    · cases h
  · cases h
