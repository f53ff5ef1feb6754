/-! THE CHECKER, 1: expressions over symbols, values, types of cells -/
abbrev aX : Type := Int ⊕ (Int × Int × Nat)
abbrev aV : Type := List Nat ⊕ (aX ⊕ (aX ⊕ Nat))
abbrev aI (e : aX) : aV := .inr (.inl e)
abbrev aJ (e : aX) : aV := .inr (.inr (.inl e))
abbrev aO (n : Nat) : aV := .inr (.inr (.inr n))
def xv (ρ : List Int) (e : aX) (z : Int) : Prop := match e with
  | .inl c => z = c
  | .inr (c, k, i) => ∃ r : Int, ρ[i]? = some r ∧ z = c + k * r
def vV (ρ : List Int) (a : aV) (v : cV) : Prop := match a with
  | .inl ks => ∃ k : Nat, k ∈ ks ∧ v = cR k
  | .inr (.inl e) => ∃ x : Int32, v = cI x ∧ xv ρ e x.toInt
  | .inr (.inr (.inl e)) => ∃ x : Int64, v = cJ x ∧ xv ρ e x.toInt
  | .inr (.inr (.inr n)) => v = cO n
theorem xv_mono {ρ ρ' : List Int} (h : ρ <+: ρ') {e : aX} {z : Int} (g : xv ρ e z) : xv ρ' e z := by
  match e, g with
  | .inl c, g => exact g
  | .inr (c, k, i), ⟨r, h1, h2⟩ =>
    obtain ⟨t, rfl⟩ := h
    exact ⟨r, by rw [List.getElem?_append_left (List.getElem?_eq_some_iff.mp h1).1]; exact h1, h2⟩
theorem vV_mono {ρ ρ' : List Int} (h : ρ <+: ρ') {a : aV} {v : cV} (g : vV ρ a v) : vV ρ' a v := by
  match a, g with
  | .inl ks, g => exact g
  | .inr (.inl e), ⟨x, h1, h2⟩ => exact ⟨x, h1, xv_mono h h2⟩
  | .inr (.inr (.inl e)), ⟨x, h1, h2⟩ => exact ⟨x, h1, xv_mono h h2⟩
  | .inr (.inr (.inr n)), g => exact g
theorem xv_det {ρ : List Int} {e : aX} {z z' : Int} (g : xv ρ e z) (g' : xv ρ e z') : z = z' := by
  match e, g, g' with
  | .inl c, g, g' => exact g.trans g'.symm
  | .inr (c, k, i), ⟨r, h1, h2⟩, ⟨r', h1', h2'⟩ =>
    rw [h1] at h1'
    cases h1'
    exact h2.trans h2'.symm
/-- bounds on the symbols, and what one is above another -/
def okB (ρ : List Int) (B : List eP) : Prop := ρ.length = B.length ∧ ∀ (i : Nat) (b : eP), B[i]? = some b → ∃ r : Int, ρ[i]? = some r ∧ bt2 b r
/-- what is known of the symbols and of rows: one is above another; one is a sum; a place of a row; the places of a row below an expression are between 0 and a bound -/
abbrev aR : Type := (Nat × Nat × Int) ⊕ ((Nat × aX × aX) ⊕ ((Nat × Nat × aX) ⊕ (Nat × Int × aX)))
def okR1 (ρ : List Int) (h : List cC) (q : aR) : Prop := match q with
  | .inl (i, j, c) => ∃ a b : Int, ρ[i]? = some a ∧ ρ[j]? = some b ∧ b + c ≤ a
  | .inr (.inl (t, x, y)) => ∃ a b z : Int, ρ[t]? = some z ∧ xv ρ x a ∧ xv ρ y b ∧ z = a + b
  | .inr (.inr (.inl (k, i, e))) => ∃ (kd n : Nat) (f : Nat → Int32), h[k]? = some (.inr (.inl (kd, n, f))) ∧ xv ρ e (f i).toInt
  | .inr (.inr (.inr (k, u, e))) => ∃ (kd n : Nat) (f : Nat → Int32) (z : Int), h[k]? = some (.inr (.inl (kd, n, f))) ∧ xv ρ e z ∧ ∀ j : Nat, (j : Int) < z → bt2 (0, u) (f j).toInt
def okR (w ρ : List Int) (h : List cC) (R : List aR) : Prop := w <+: ρ ∧ ∀ q ∈ R, okR1 ρ h q
def xb (B : List eP) (e : aX) : eP := match e with
  | .inl c => (c, c)
  | .inr (c, k, i) => match B[i]? with
    | some b => (match iLe 0 k with
      | true => (c + k * b.1, c + k * b.2)
      | false => (c + k * b.2, c + k * b.1))
    | none => f64
theorem xb_ok {ρ : List Int} {B : List eP} (hB : okB ρ B) {e : aX} {z : Int} (hv : xv ρ e z) : bt2 (xb B e) z := by
  match e, hv with
  | .inl c, hv => cases hv; exact ⟨Int.le_refl _, Int.le_refl _⟩
  | .inr (c, k, i), ⟨r, h1, h2⟩ =>
    have hl := (List.getElem?_eq_some_iff.mp h1).1
    rw [hB.1] at hl
    have hb : B[i]? = some B[i] := List.getElem?_eq_getElem hl
    obtain ⟨r', h3, h4⟩ := hB.2 i _ hb
    rw [h1] at h3
    cases h3
    unfold xb
    dsimp only
    rw [hb]
    dsimp only
    generalize B[i] = b at h4
    have q1 := h4.1
    have q2 := h4.2
    cases hk : iLe 0 k with
    | true =>
      rw [iLe_ok] at hk
      subst h2
      exact ⟨Int.add_le_add_left (Int.mul_le_mul_of_nonneg_left q1 hk) c, Int.add_le_add_left (Int.mul_le_mul_of_nonneg_left q2 hk) c⟩
    | false =>
      have hk2 : k ≤ 0 := by
        have : ¬ 0 ≤ k := fun z => by rw [iLe_ok.mpr z] at hk; cases hk
        omega
      subst h2
      exact ⟨Int.add_le_add_left (Int.mul_le_mul_of_nonpos_left hk2 q2) c, Int.add_le_add_left (Int.mul_le_mul_of_nonpos_left hk2 q1) c⟩
theorem okB_push {ρ : List Int} {B : List eP} (hB : okB ρ B) {b : eP} {r : Int} (h : bt2 b r) : okB (ρ ++ [r]) (B ++ [b]) := by
  refine ⟨by rw [List.length_append, List.length_append, hB.1]; rfl, fun i b' hi => ?_⟩
  by_cases hl : i < B.length
  · rw [List.getElem?_append_left hl] at hi
    obtain ⟨r', h1, h2⟩ := hB.2 i b' hi
    exact ⟨r', by rw [List.getElem?_append_left (by rw [hB.1]; exact hl)]; exact h1, h2⟩
  · rw [List.getElem?_append_right (by omega)] at hi
    have hz : i - B.length < 1 := (List.getElem?_eq_some_iff.mp hi).1
    have hi0 : i = B.length := by omega
    subst hi0
    rw [Nat.sub_self] at hi
    cases hi
    refine ⟨r, ?_, h⟩
    rw [← hB.1, List.getElem?_append_right (Nat.le_refl _), Nat.sub_self]
    rfl
theorem new_at {ρ : List Int} {B : List eP} (hB : okB ρ B) (r : Int) : xv (ρ ++ [r]) (.inr (0, 1, B.length)) r := ⟨r, by rw [← hB.1, List.getElem?_append_right (Nat.le_refl _), Nat.sub_self]; rfl, by omega⟩
theorem at_mono {ρ ρ' : List Int} (h : ρ <+: ρ') {i : Nat} {a : Int} (g : ρ[i]? = some a) : ρ'[i]? = some a := by
  obtain ⟨t, rfl⟩ := h
  rw [List.getElem?_append_left (List.getElem?_eq_some_iff.mp g).1]
  exact g
theorem okR1_mono {ρ ρ' : List Int} {h : List cC} (hp : ρ <+: ρ') {q : aR} (g : okR1 ρ h q) : okR1 ρ' h q := by
  match q, g with
  | .inl (i, j, c), ⟨a, b, h1, h2, h3⟩ => exact ⟨a, b, at_mono hp h1, at_mono hp h2, h3⟩
  | .inr (.inl (t, x, y)), ⟨a, b, z, h1, h2, h3, h4⟩ => exact ⟨a, b, z, at_mono hp h1, xv_mono hp h2, xv_mono hp h3, h4⟩
  | .inr (.inr (.inl (k, i, e))), ⟨kd, n, f, h1, h2⟩ => exact ⟨kd, n, f, h1, xv_mono hp h2⟩
  | .inr (.inr (.inr (k, u, e))), ⟨kd, n, f, z, h1, h2, h3⟩ => exact ⟨kd, n, f, z, h1, xv_mono hp h2, h3⟩
theorem okR_mono {w ρ ρ' : List Int} {hh : List cC} (h : ρ <+: ρ') {R : List aR} (g : okR w ρ hh R) : okR w ρ' hh R := ⟨g.1.trans h, fun q hq => okR1_mono h (g.2 q hq)⟩
def rK : aR → Option Nat
  | .inr (.inr (.inl (k, _, _))) => some k
  | .inr (.inr (.inr (k, _, _))) => some k
  | _ => none
theorem okR1_set {ρ : List Int} {h : List cC} {q : aR} {k : Nat} {c : cC} (g : okR1 ρ h q) (hne : ∀ k' : Nat, rK q = some k' → k' ≠ k) : okR1 ρ (h.set k c) q := by
  match q, g, hne with
  | .inl _, g, _ => exact g
  | .inr (.inl _), g, _ => exact g
  | .inr (.inr (.inl (k1, i, e))), ⟨kd, n, f, h1, h2⟩, hne => exact ⟨kd, n, f, by rw [List.getElem?_set_ne (Ne.symm (hne k1 rfl))]; exact h1, h2⟩
  | .inr (.inr (.inr (k1, u, e))), ⟨kd, n, f, z, h1, h2, h3⟩, hne => exact ⟨kd, n, f, z, by rw [List.getElem?_set_ne (Ne.symm (hne k1 rfl))]; exact h1, h2, h3⟩
theorem okR1_row {ρ : List Int} {h : List cC} {q : aR} {k : Nat} (g : okR1 ρ h q) (hk : rK q = some k) : ∃ (kd n : Nat) (f : Nat → Int32), h[k]? = some (.inr (.inl (kd, n, f))) := by
  match q, g, hk with
  | .inr (.inr (.inl (k1, i, e))), ⟨kd, n, f, h1, h2⟩, hk => cases hk; exact ⟨kd, n, f, h1⟩
  | .inr (.inr (.inr (k1, u, e))), ⟨kd, n, f, z, h1, h2, h3⟩, hk => cases hk; exact ⟨kd, n, f, h1⟩
/-- a cell that is no row of ints is written -/
theorem okR_nrow {w ρ : List Int} {h : List cC} {R : List aR} (g : okR w ρ h R) {k : Nat} {c0 c : cC} (h0 : h[k]? = some c0) (hn : ∀ (kd n : Nat) (f : Nat → Int32), c0 ≠ .inr (.inl (kd, n, f))) : okR w ρ (h.set k c) R := ⟨g.1, fun q hq => okR1_set (g.2 q hq) (fun k' hk' e => by
    subst e
    obtain ⟨kd, n, f, h1⟩ := okR1_row (g.2 q hq) hk'
    rw [h0] at h1
    cases h1
    exact hn kd n f rfl)⟩
def cutR (ks : List Nat) (R : List aR) : List aR := R.filter (fun q => match rK q with
  | some k => !(ks.any (Nat.beq k))
  | none => true)
theorem okR_cut {w ρ : List Int} {h : List cC} {R : List aR} (g : okR w ρ h R) {k : Nat} {ks : List Nat} {c : cC} (hk : k ∈ ks) : okR w ρ (h.set k c) (cutR ks R) := ⟨g.1, fun q hq => by
  obtain ⟨h1, h2⟩ := List.mem_filter.mp hq
  refine okR1_set (g.2 q h1) (fun k' hk' e => ?_)
  rw [hk', e] at h2
  have h3 : ks.any (Nat.beq k) = true := List.any_eq_true.mpr ⟨k, hk, Nat.beq_refl _⟩
  dsimp only at h2
  rw [h3] at h2
  cases h2⟩
/-- a symbol's bounds drawn closer -/
theorem okB_set {ρ : List Int} {B : List eP} (hB : okB ρ B) {i : Nat} {b : eP} (h : ∀ r : Int, ρ[i]? = some r → bt2 b r) : okB ρ (B.set i b) := by
  refine ⟨by rw [List.length_set]; exact hB.1, fun j b' hj => ?_⟩
  by_cases hji : j = i
  · subst hji
    by_cases hl : j < B.length
    · rw [List.getElem?_set_self hl] at hj
      cases hj
      obtain ⟨r, h1⟩ : ∃ r : Int, ρ[j]? = some r := ⟨_, List.getElem?_eq_getElem (by rw [hB.1]; exact hl)⟩
      exact ⟨r, h1, h r h1⟩
    · rw [List.getElem?_eq_none (by rw [List.length_set]; omega)] at hj
      cases hj
  · rw [List.getElem?_set_ne (Ne.symm hji)] at hj
    exact hB.2 j b' hj
/-- sums and multiples of expressions -/
def xScale (k : Int) (e : aX) : aX := match e with
  | .inl c => .inl (k * c)
  | .inr (c, k2, i) => .inr (k * c, k * k2, i)
theorem xScale_ok {ρ : List Int} {k : Int} {e : aX} {z : Int} (h : xv ρ e z) : xv ρ (xScale k e) (k * z) := by
  match e, h with
  | .inl c, h => cases h; rfl
  | .inr (c, k2, i), ⟨r, h1, h2⟩ => exact ⟨r, h1, by subst h2; rw [Int.mul_add, Int.mul_assoc]⟩
def xSum (a b : aX) : Option aX := match a, b with
  | .inl c, .inl d => some (.inl (c + d))
  | .inl c, .inr (d, k, i) => some (.inr (c + d, k, i))
  | .inr (c, k, i), .inl d => some (.inr (c + d, k, i))
  | .inr (c, k, i), .inr (d, k2, j) => match Nat.beq i j with
    | true => (match iLe (k + k2) 0 && iLe 0 (k + k2) with
      | true => some (.inl (c + d))
      | false => some (.inr (c + d, k + k2, i)))
    | false => none
theorem xSum_ok {ρ : List Int} {a b e : aX} {x y : Int} (ha : xv ρ a x) (hb : xv ρ b y) (h : xSum a b = some e) : xv ρ e (x + y) := by
  match a, b, ha, hb, h with
  | .inl c, .inl d, ha, hb, h => cases h; cases ha; cases hb; rfl
  | .inl c, .inr (d, k, i), ha, ⟨r, h1, h2⟩, h => cases h; cases ha; exact ⟨r, h1, by subst h2; omega⟩
  | .inr (c, k, i), .inl d, ⟨r, h1, h2⟩, hb, h => cases h; cases hb; exact ⟨r, h1, by subst h2; omega⟩
  | .inr (c, k, i), .inr (d, k2, j), ⟨r, h1, h2⟩, ⟨r', h1', h2'⟩, h =>
    unfold xSum at h
    dsimp only at h
    cases hij : Nat.beq i j with
    | false => rw [hij] at h; cases h
    | true =>
      rw [hij] at h
      have e := nbeq_t hij
      subst e
      rw [h1] at h1'
      cases h1'
      dsimp only at h
      split at h
      · rename_i hz
        simp only [Bool.and_eq_true, iLe_ok] at hz
        cases h
        have h0 : k + k2 = 0 := by omega
        have h3 : k * r + k2 * r = 0 := by rw [← Int.add_mul, h0, Int.zero_mul]
        show x + y = c + d
        omega
      · cases h
        exact ⟨r, h1, by subst h2; subst h2'; rw [Int.add_mul]; omega⟩
