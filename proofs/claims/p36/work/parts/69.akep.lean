/-! THE CHECKER, 20: frames: which fields and rows may be written; places of rows that stay; what else is kept -/
/-- which rows may not be written by a step (only by calls that are known to keep what is said of them), and which places of rows stay -/
abbrev aW : Type := List (Nat × Nat)
def inW (W : aW) (k j : Nat) : Bool := W.any (fun q => Nat.beq q.1 k && Nat.beq q.2 j)
def stay (PT : List (Nat × sG)) (k : Nat) (f f2 : Nat → Int32) : Prop := ∀ q ∈ PT, q.1 = k → ∀ j : Nat, inS q.2 j → f2 j = f j
def frC (PT : List (Nat × sG)) (W : aW) (k : Nat) (c c2 : cC) : Prop := match c with
  | .inl (ci, vs) => ∃ vs2 : List cV, c2 = .inl (ci, vs2) ∧ ∀ j : Nat, inW W k j = false → vs2[j]? = vs[j]?
  | .inr (.inl (kd, n, f)) => ∃ f2 : Nat → Int32, c2 = .inr (.inl (kd, n, f2)) ∧ (inW W k 1000 = false → f2 = f) ∧ stay PT k f f2
  | .inr (.inr (.inl (n, f))) => ∃ f2 : Nat → Int64, c2 = .inr (.inr (.inl (n, f2))) ∧ (inW W k 1000 = false → f2 = f)
  | .inr (.inr (.inr x)) => c2 = .inr (.inr (.inr x))
def Fr (PT : List (Nat × sG)) (W : aW) (h h2 : List cC) : Prop := ∀ (k : Nat) (c : cC), h[k]? = some c → ∃ c2 : cC, h2[k]? = some c2 ∧ frC PT W k c c2
theorem frC_rf (PT : List (Nat × sG)) (W : aW) (k : Nat) (c : cC) : frC PT W k c c := by
  match c with
  | .inl (ci, vs) => exact ⟨vs, rfl, fun _ _ => rfl⟩
  | .inr (.inl (kd, n, f)) => exact ⟨f, rfl, fun _ => rfl, fun _ _ _ _ _ => rfl⟩
  | .inr (.inr (.inl (n, f))) => exact ⟨f, rfl, fun _ => rfl⟩
  | .inr (.inr (.inr x)) => rfl
theorem Fr.rf {PT : List (Nat × sG)} {W : aW} {h : List cC} : Fr PT W h h := fun k c hk => ⟨c, hk, frC_rf PT W k c⟩
def subW (W2 W : aW) : Bool := W2.all (fun q => inW W q.1 q.2)
theorem subW_ok {W2 W : aW} (h : subW W2 W = true) {k j : Nat} (hn : inW W k j = false) : inW W2 k j = false := by
  cases h2 : inW W2 k j with
  | false => rfl
  | true =>
    unfold inW at h2
    obtain ⟨q, q1, q2⟩ := List.any_eq_true.mp h2
    obtain ⟨q2, q3⟩ := and_inv q2
    have := List.all_eq_true.mp h q q1
    rw [nbeq_t q2, nbeq_t q3, hn] at this
    cases this
theorem frC_tr {PT : List (Nat × sG)} {W2 W : aW} (hW : subW W2 W = true) {k : Nat} {c c2 c3 : cC} (h1 : frC PT W k c c2) (h2 : frC PT W2 k c2 c3) : frC PT W k c c3 := by
  match c, h1 with
  | .inl (ci, vs), ⟨vs2, e, g⟩ =>
    subst e
    obtain ⟨vs3, e, g2⟩ := h2
    exact ⟨vs3, e, fun j hj => (g2 j (subW_ok hW hj)).trans (g j hj)⟩
  | .inr (.inl (kd, n, f)), ⟨f2, e, g, s⟩ =>
    subst e
    obtain ⟨f3, e, g2, s2⟩ := h2
    exact ⟨f3, e, fun hj => (g2 (subW_ok hW hj)).trans (g hj), fun q hq hk j hj => (s2 q hq hk j hj).trans (s q hq hk j hj)⟩
  | .inr (.inr (.inl (n, f))), ⟨f2, e, g⟩ =>
    subst e
    obtain ⟨f3, e, g2⟩ := h2
    exact ⟨f3, e, fun hj => (g2 (subW_ok hW hj)).trans (g hj)⟩
  | .inr (.inr (.inr x)), h1 =>
    have h1 : c2 = .inr (.inr (.inr x)) := h1
    subst h1
    exact h2
theorem Fr.tr {PT : List (Nat × sG)} {W2 W : aW} (hW : subW W2 W = true) {h h2 h3 : List cC} (h1 : Fr PT W h h2) (g : Fr PT W2 h2 h3) : Fr PT W h h3 := fun k c hk => by
  obtain ⟨c2, z1, z2⟩ := h1 k c hk
  obtain ⟨c3, z3, z4⟩ := g k c2 z1
  exact ⟨c3, z3, frC_tr hW z2 z4⟩
theorem subW_rf (W : aW) : subW W W = true := List.all_eq_true.mpr fun q hq => List.any_eq_true.mpr ⟨q, hq, by rw [Nat.beq_refl, Nat.beq_refl]; rfl⟩
theorem Fr.set {PT : List (Nat × sG)} {W : aW} {h0 h : List cC} (g : Fr PT W h0 h) {k : Nat} {c c2 : cC} (hk : h[k]? = some c) (hc : frC PT W k c c2) : Fr PT W h0 (h.set k c2) := by
  refine Fr.tr (subW_rf W) g (fun j d hj => ?_)
  by_cases e : j = k
  · subst e
    rw [hk] at hj
    cases hj
    exact ⟨c2, List.getElem?_set_self (List.getElem?_eq_some_iff.mp hk).1, hc⟩
  · exact ⟨d, by rw [List.getElem?_set_ne (Ne.symm e)]; exact hj, frC_rf PT W j d⟩
/-- what is kept besides: something said of some cells -/
abbrev aP : Type := List tT × List (Nat × sG) × List Nat × (List cC → Prop)
/-- what the checks look at -/
abbrev aP3 : Type := List tT × List (Nat × sG) × List Nat
abbrev p3 (P : aP) : aP3 := (P.1, P.2.1, P.2.2.1)
def pJ (P : aP) : Prop := ∀ h h2 : List cC, (∀ k ∈ P.2.2.1, h2[k]? = h[k]?) → P.2.2.2 h → P.2.2.2 h2
def Kp (P : aP) (W : aW) (h0 h : List cC) : Prop := Fr P.2.1 W h0 h ∧ P.2.2.2 h
def noI (IR : List Nat) (k : Nat) : Bool := !(IR.any (Nat.beq k))
theorem noI_ok {IR : List Nat} {k : Nat} (h : noI IR k = true) : ∀ j ∈ IR, j ≠ k := fun j hj e => by
  unfold noI at h
  have : IR.any (Nat.beq k) = true := List.any_eq_true.mpr ⟨j, hj, by rw [e]; exact Nat.beq_refl _⟩
  rw [this] at h
  cases h
theorem Kp_set {P : aP} (hJ : pJ P) {W : aW} {h0 h : List cC} (g : Kp P W h0 h) {k : Nat} {c c2 : cC} (hk : h[k]? = some c) (hc : frC P.2.1 W k c c2) (hn : noI P.2.2.1 k = true) : Kp P W h0 (h.set k c2) :=
  ⟨g.1.set hk hc, hJ h _ (fun j hj => List.getElem?_set_ne (Ne.symm (noI_ok hn j hj))) g.2⟩
def pNo (PT : List (Nat × sG)) (k : Nat) : Bool := PT.all (fun q => !(Nat.beq q.1 k))
def pOut (PT : List (Nat × sG)) (B : List eP) (e : aX) (k : Nat) : Bool := PT.all (fun q => !(Nat.beq q.1 k) || segOut B e q.2)
def wOK (PT : List (Nat × sG)) (IR : List Nat) (W : aW) (M : eM) (ins : Instr) (a : aS) : Bool := match ins with
  | .putfield i => (match fnd (fTab.getD (m_o M) []) i, a.2.2.1 with
    | some (_, _, fi), _ :: .inl ks :: _ => ks.all (fun k => inW W k fi && noI IR k)
    | _, _ => false)
  | .iastore => (match a.2.2.1 with
    | _ :: .inr (.inl e) :: .inl ks :: _ => ks.all (fun k => inW W k 1000 && (noI IR k && pOut PT a.2.2.2.2.1 e k))
    | _ => false)
  | .bastore => (match a.2.2.1 with
    | _ :: _ :: .inl ks :: _ => ks.all (fun k => inW W k 1000 && (noI IR k && pNo PT k))
    | _ => false)
  | .lastore => (match a.2.2.1 with
    | _ :: _ :: .inl ks :: _ => ks.all (fun k => inW W k 1000 && noI IR k)
    | _ => false)
  | .invokestatic _ => false
  | .invokespecial _ => false
  | .invokevirtual _ => false
  | _ => true
theorem pNo_stay {PT : List (Nat × sG)} {k : Nat} (h : pNo PT k = true) (f f2 : Nat → Int32) : stay PT k f f2 := fun q hq hk j hj => by
  have := List.all_eq_true.mp h q hq
  rw [hk, Nat.beq_refl] at this
  cases this
theorem inW_ne {W : aW} {k j : Nat} (h : inW W k j = true) {p : Prop} (hn : inW W k j = false) : p := by
  rw [h] at hn
  cases hn
theorem kept {P : aP} (hJ : pJ P) {W : aW} {w : List Int} {call : cCl} {M : eM} {sc : Option (Nat × (Nat → Int32))} {ins : Instr} {len : Nat} {a : aS} {S S2 : cS} {h0 : List cC} (hS : aM P.1 w a S) (hs : cStep call M sc ins len S.1 S.2.1 S.2.2.1 S.2.2.2 = some S2) (hw : wOK P.2.1 P.2.2.1 W M ins a = true) (g : Kp P W h0 S.2.2.2) : Kp P W h0 S2.2.2.2 := by
  obtain ⟨e1, hG, ρ, hB, hR, hL, hSt, hF⟩ := hS
  cases hi : isW ins with
  | false => rw [same_heap hs hi]; exact g
  | true =>
    obtain ⟨pc, ls, st, F, B, R⟩ := a
    obtain ⟨Spc, Sls, Sst, Sh⟩ := S
    dsimp only at e1 hG hB hR hL hSt hF hs g ⊢
    unfold isW at hi
    split at hi
    · rename_i idx
      unfold wOK at hw
      dsimp only at hw
      split at hw
      · rename_i q1 q2 fi v ks st2 hf
        subst_vars
        have hs : kPut M idx len Spc Sls Sst Sh = some S2 := hs
        obtain ⟨kd, ci, fi', k0, st3, fs, a', a0, C, Tc, N, hf', est, h1, h2, hc, rfl, h3, h4, h5, rfl⟩ := kPut_inv hs
        rw [hf] at hf'
        cases hf'
        subst est
        obtain ⟨v1, vs1, r1, hv1, hS1⟩ := okS_cons hSt
        obtain ⟨v2, vs2, r2, ⟨k, hk, r3⟩, hS2⟩ := okS_cons hS1
        cases r1
        cases r2
        cases r3
        obtain ⟨w1, w2⟩ := and_inv (List.all_eq_true.mp hw _ hk)
        refine Kp_set hJ g h1 ⟨_, rfl, fun j hj => ?_⟩ w2
        have hne : fi ≠ j := fun e => by
          subst e
          exact inW_ne w1 hj
        exact List.getElem?_set_ne hne
      · cases hw
    · unfold wOK at hw
      dsimp only at hw
      split at hw
      · rename_i x e ks st2
        subst_vars
        have hs : kIast len Spc Sls Sst Sh = some S2 := hs
        obtain ⟨k0, n, f, i, y, st3, est, h1, _, h2, rfl⟩ := kIast_inv hs
        subst est
        obtain ⟨v1, vs1, r1, hv1, hS1⟩ := okS_cons hSt
        obtain ⟨v2, vs2, r2, ⟨i', r4, hi'⟩, hS2⟩ := okS_cons hS1
        obtain ⟨v3, vs3, r5, ⟨k, hk, r6⟩, hS3⟩ := okS_cons hS2
        cases r1
        cases r2
        cases r4
        cases r5
        cases r6
        obtain ⟨w1, w2⟩ := and_inv (List.all_eq_true.mp hw _ hk)
        obtain ⟨w2, w3⟩ := and_inv w2
        refine Kp_set hJ g h1 ⟨_, rfl, fun hj => inW_ne w1 hj, fun q hq hqk j hj => ?_⟩ w2
        have w4 := List.all_eq_true.mp w3 q hq
        rw [hqk, Nat.beq_refl] at w4
        have w4 : segOut B e q.2 = true := w4
        have h0' : 0 ≤ i.toInt := (vp_in_iff.mp h2).1
        have hno := segOut_ok hB hi' h0' w4
        exact pk_un (fun e0 => hno (by rw [e0] at hj; exact hj))
      · cases hw
    · unfold wOK at hw
      dsimp only at hw
      split at hw
      · rename_i x e ks st2
        subst_vars
        have hs : kBast len Spc Sls Sst Sh = some S2 := hs
        obtain ⟨k0, n, f, i, y, st3, est, _, h2, h1⟩ := kBast_inv hs
        subst est
        obtain ⟨v1, vs1, r1, hv1, hS1⟩ := okS_cons hSt
        obtain ⟨v2, vs2, r2, hv2, hS2⟩ := okS_cons hS1
        obtain ⟨v3, vs3, r5, ⟨k, hk, r6⟩, hS3⟩ := okS_cons hS2
        cases r1
        cases r2
        cases r5
        cases r6
        obtain ⟨w1, w2⟩ := and_inv (List.all_eq_true.mp hw _ hk)
        obtain ⟨w2, w3⟩ := and_inv w2
        rcases h1 with ⟨h1, rfl⟩ | ⟨h1, rfl⟩
        · exact Kp_set hJ g h1 ⟨_, rfl, fun hj => inW_ne w1 hj, pNo_stay w3 _ _⟩ w2
        · exact Kp_set hJ g h1 ⟨_, rfl, fun hj => inW_ne w1 hj, pNo_stay w3 _ _⟩ w2
      · cases hw
    · unfold wOK at hw
      dsimp only at hw
      split at hw
      · rename_i x e ks st2
        subst_vars
        have hs : kLast len Spc Sls Sst Sh = some S2 := hs
        obtain ⟨k0, n, f, i, y, st3, est, h1, _, h2, rfl⟩ := kLast_inv hs
        subst est
        obtain ⟨v1, vs1, r1, hv1, hS1⟩ := okS_cons hSt
        obtain ⟨v2, vs2, r2, hv2, hS2⟩ := okS_cons hS1
        obtain ⟨v3, vs3, r5, ⟨k, hk, r6⟩, hS3⟩ := okS_cons hS2
        cases r1
        cases r2
        cases r5
        cases r6
        obtain ⟨w1, w2⟩ := and_inv (List.all_eq_true.mp hw _ hk)
        exact Kp_set hJ g h1 ⟨_, rfl, fun hj => inW_ne w1 hj⟩ w2
      · cases hw
    · cases hw
    · cases hw
    · cases hw
    · cases hi
