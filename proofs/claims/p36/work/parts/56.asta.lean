/-! THE CHECKER, 7: its states, and what they say of a pure state -/
/-- pc, locals, stack, fields that are known, bounds of the symbols, what one symbol is above another -/
abbrev aS : Type := Nat × List (Nat × aV) × List aV × List (Nat × Nat × aV) × List eP × List aR
def okL (ρ : List Int) (als : List (Nat × aV)) (ls : List (Nat × cV)) : Prop := ∀ q ∈ als, ∃ v : cV, clk ls q.1 = some v ∧ vV ρ q.2 v
def okS (ρ : List Int) : List aV → List cV → Prop
  | [], [] => True
  | a :: as, v :: vs => vV ρ a v ∧ okS ρ as vs
  | _, _ => False
def okF (ρ : List Int) (F : List (Nat × Nat × aV)) (h : List cC) : Prop := ∀ q ∈ F, ∃ (ci : Nat) (vs : List cV) (v : cV), h[q.1]? = some (.inl (ci, vs)) ∧ vs[q.2.1]? = some v ∧ vV ρ q.2.2 v
def aM (T : List tT) (w : List Int) (a : aS) (S : cS) : Prop := S.1 = a.1 ∧ HG T [] S.2.2.2 ∧ ∃ ρ : List Int, okB ρ a.2.2.2.2.1 ∧ okR w ρ S.2.2.2 a.2.2.2.2.2 ∧ okL ρ a.2.1 S.2.1 ∧ okS ρ a.2.2.1 S.2.2.1 ∧ okF ρ a.2.2.2.1 S.2.2.2
theorem okL_mono {ρ ρ' : List Int} (h : ρ <+: ρ') {als : List (Nat × aV)} {ls : List (Nat × cV)} (g : okL ρ als ls) : okL ρ' als ls := fun q hq => by
  obtain ⟨v, h1, h2⟩ := g q hq
  exact ⟨v, h1, vV_mono h h2⟩
theorem okS_mono {ρ ρ' : List Int} (h : ρ <+: ρ') : ∀ {as : List aV} {vs : List cV}, okS ρ as vs → okS ρ' as vs
  | [], [], _ => trivial
  | _ :: _, _ :: _, g => ⟨vV_mono h g.1, okS_mono h g.2⟩
  | [], _ :: _, g => g.elim
  | _ :: _, [], g => g.elim
theorem okF_mono {ρ ρ' : List Int} (h : ρ <+: ρ') {F : List (Nat × Nat × aV)} {hh : List cC} (g : okF ρ F hh) : okF ρ' F hh := fun q hq => by
  obtain ⟨ci, vs, v, h1, h2, h3⟩ := g q hq
  exact ⟨ci, vs, v, h1, h2, vV_mono h h3⟩
theorem okS_cons {ρ : List Int} {a : aV} {as : List aV} {st : List cV} (g : okS ρ (a :: as) st) : ∃ (v : cV) (vs : List cV), st = v :: vs ∧ vV ρ a v ∧ okS ρ as vs := by
  match st, g with
  | v :: vs, g => exact ⟨v, vs, rfl, g.1, g.2⟩
  | [], g => exact g.elim
def awide : aV → Bool
  | .inr (.inr (.inl _)) => true
  | _ => false
theorem awide_ok {ρ : List Int} {a : aV} {v : cV} (h : vV ρ a v) : wide v = awide a := by
  match a, h with
  | .inl ks, ⟨k, _, e⟩ => subst e; rfl
  | .inr (.inl e), ⟨x, e', _⟩ => subst e'; rfl
  | .inr (.inr (.inl e)), ⟨x, e', _⟩ => subst e'; rfl
  | .inr (.inr (.inr n)), h =>
    have h : v = cO n := h
    subst h
    rfl
def akI (i : Nat) (q : Nat × aV) : Bool := !(Nat.beq q.1 i) && !(Nat.beq (q.1 + 1) i && awide q.2)
def akJ (i : Nat) (q : Nat × aV) : Bool := !(Nat.beq q.1 i) && (!(Nat.beq q.1 (i + 1)) && !(Nat.beq (q.1 + 1) i && awide q.2))
theorem clk_filter {P : Nat × cV → Bool} {j : Nat} {v : cV} (hP : P (j, v) = true) : ∀ {ls : List (Nat × cV)}, clk ls j = some v → clk (ls.filter P) j = some v
  | [], h => by cases h
  | (k, u) :: r, h => by
    unfold clk at h
    cases hk : Nat.beq k j with
    | true =>
      rw [hk] at h
      cases h
      have e := nbeq_t hk
      subst e
      rw [List.filter_cons, if_pos hP]
      unfold clk
      rw [hk]
    | false =>
      rw [hk] at h
      have ih := clk_filter hP (ls := r) h
      rw [List.filter_cons]
      by_cases hp : P (k, u) = true
      · rw [if_pos hp]
        unfold clk
        rw [hk]
        exact ih
      · rw [if_neg hp]
        exact ih
theorem okL_I {ρ : List Int} {als : List (Nat × aV)} {ls : List (Nat × cV)} (g : okL ρ als ls) {i : Nat} {a : aV} {v : cV} (hv : vV ρ a v) : okL ρ ((i, a) :: als.filter (akI i)) ((i, v) :: ls.filter (ckI i)) := by
  intro q hq
  rcases List.mem_cons.mp hq with e | hq2
  · subst e
    refine ⟨v, ?_, hv⟩
    unfold clk
    rw [Nat.beq_refl]
  · obtain ⟨h1, h2⟩ := List.mem_filter.mp hq2
    obtain ⟨u, h3, h4⟩ := g q h1
    have h5 := awide_ok h4
    refine ⟨u, ?_, h4⟩
    have h6 : ckI i (q.1, u) = true := by
      unfold ckI
      dsimp only
      rw [h5]
      exact h2
    have h7 : Nat.beq i q.1 = false := by
      have h8 := (and_inv h2).1
      cases hb : Nat.beq i q.1 with
      | false => rfl
      | true =>
        have := nbeq_t hb
        rw [← this, Nat.beq_refl] at h8
        cases h8
    show clk ((i, v) :: ls.filter (ckI i)) q.1 = some u
    unfold clk
    rw [h7]
    exact clk_filter h6 h3
theorem okL_J {ρ : List Int} {als : List (Nat × aV)} {ls : List (Nat × cV)} (g : okL ρ als ls) {i : Nat} {a : aV} {v : cV} (hv : vV ρ a v) : okL ρ ((i, a) :: als.filter (akJ i)) ((i, v) :: ls.filter (ckJ i)) := by
  intro q hq
  rcases List.mem_cons.mp hq with e | hq2
  · subst e
    refine ⟨v, ?_, hv⟩
    unfold clk
    rw [Nat.beq_refl]
  · obtain ⟨h1, h2⟩ := List.mem_filter.mp hq2
    obtain ⟨u, h3, h4⟩ := g q h1
    have h5 := awide_ok h4
    refine ⟨u, ?_, h4⟩
    have h6 : ckJ i (q.1, u) = true := by
      unfold ckJ
      dsimp only
      rw [h5]
      exact h2
    have h7 : Nat.beq i q.1 = false := by
      have h8 := (and_inv h2).1
      cases hb : Nat.beq i q.1 with
      | false => rfl
      | true =>
        have := nbeq_t hb
        rw [← this, Nat.beq_refl] at h8
        cases h8
    show clk ((i, v) :: ls.filter (ckJ i)) q.1 = some u
    unfold clk
    rw [h7]
    exact clk_filter h6 h3
def alk : List (Nat × aV) → Nat → Option aV
  | [], _ => none
  | (k, v) :: r, i => match Nat.beq k i with
    | true => some v
    | false => alk r i
theorem alk_mem : ∀ {ls : List (Nat × aV)} {i : Nat} {a : aV}, alk ls i = some a → (i, a) ∈ ls
  | [], i, a, h => by cases h
  | (k, v) :: r, i, a, h => by
    unfold alk at h
    cases hk : Nat.beq k i with
    | true =>
      rw [hk] at h
      cases h
      rw [← nbeq_t hk]
      exact List.mem_cons_self
    | false =>
      rw [hk] at h
      exact List.mem_cons_of_mem _ (alk_mem h)
/-- a step of the checker is good for a pure step -/
def Snd (T : List tT) (w : List Int) (a : aS) (as : List aS) (k : Nat → List (Nat × cV) → List cV → List cC → Option cS) : Prop := ∀ S : cS, aM T w a S → ∃ S2 : cS, k S.1 S.2.1 S.2.2.1 S.2.2.2 = some S2 ∧ ∃ a2 ∈ as, aM T w a2 S2
theorem cNx_t {b : Bool} {S : cS} (h : b = true) : cNx b S = some S := by
  subst h
  rfl
def aNx (b : Bool) (a : aS) : Option (List aS) := match b with
  | true => some [a]
  | false => none
theorem aNx_inv {b : Bool} {a : aS} {as : List aS} (h : aNx b a = some as) : b = true ∧ as = [a] := by
  cases b with
  | true => cases h; exact ⟨rfl, rfl⟩
  | false => cases h
/-- two ints -/
def qBin (ok : eP → Bool) (g : List eP → aX → aX → aX ⊕ eP) (len : Nat) (a : aS) : Option (List aS) := match a with
  | (pc, ls, .inr (.inl y) :: .inr (.inl x) :: st, F, B, R) => aNx (Nat.beq len 1 && ok (xb B y)) (pc + 1, ls, aI (put B (g B x y)).1 :: st, F, (put B (g B x y)).2, R)
  | _ => none
theorem qBin_ok {T : List tT} {w : List Int} {okA : eP → Bool} {okC : Int32 → Bool} {g : List eP → aX → aX → aX ⊕ eP} {f : Int32 → Int32 → Int32} (hg : ∀ (ρ : List Int) (B : List eP) (a b : aX) (x y : Int32), okB ρ B → xv ρ a x.toInt → xv ρ b y.toInt → okC y = true → rv ρ (g B a b) (f x y).toInt) (ho : ∀ (q : eP) (y : Int32), bt2 q y.toInt → okA q = true → okC y = true) {len : Nat} {a : aS} {as : List aS} (h : qBin okA g len a = some as) : Snd T w a as (kBin okC f len) := by
  intro S hS
  obtain ⟨Spc, Sls, Sst, Sh⟩ := S
  unfold qBin at h
  split at h
  · rename_i pc ls y x st F B R
    obtain ⟨h1, rfl⟩ := aNx_inv h
    obtain ⟨h1, h2⟩ := and_inv h1
    obtain ⟨e1, hG, ρ, hB, hR, hL, hSt, hF⟩ := hS
    dsimp only at e1 hG hB hR hL hSt hF
    obtain ⟨v1, vs1, e2, ⟨y', e3, hy⟩, hS1⟩ := okS_cons hSt
    obtain ⟨v2, vs2, e4, ⟨x', e5, hx⟩, hS2⟩ := okS_cons hS1
    subst e1 e3 e5 e4 e2
    have hy2 := ho _ y' (xb_ok hB hy) h2
    obtain ⟨ρ', p1, p2, p3⟩ := put_ok hB (hg ρ B x y x' y' hB hx hy hy2)
    refine ⟨(Spc + 1, Sls, cI (f x' y') :: vs2, Sh), ?_, _, List.mem_singleton.mpr rfl, rfl, hG, ρ', p2, okR_mono p1 hR, okL_mono p1 hL, ⟨⟨_, rfl, p3⟩, okS_mono p1 hS2⟩, okF_mono p1 hF⟩
    show cNx (Nat.beq len 1 && okC y') _ = _
    exact cNx_t (by rw [h1, hy2]; rfl)
  · cases h
