/-! THE ENGINE, 13: are two states one? -/
def eqI (a b : Int) : Bool := iLe a b && iLe b a
theorem eqI_ok {a b : Int} (h : eqI a b = true) : a = b := by
  obtain ⟨h1, h2⟩ := and_inv h
  rw [iLe_ok] at h1 h2
  omega
def eqP (a b : eP) : Bool := eqI a.1 b.1 && eqI a.2 b.2
theorem eqP_ok {a b : eP} (h : eqP a b = true) : a = b := by
  obtain ⟨h1, h2⟩ := and_inv h
  exact Prod.ext (eqI_ok h1) (eqI_ok h2)
def eqL {α : Type} (f : α → α → Bool) : List α → List α → Bool
  | [], [] => true
  | a :: as, b :: bs => f a b && eqL f as bs
  | _, _ => false
theorem eqL_ok {α : Type} {f : α → α → Bool} (hf : ∀ a b, f a b = true → a = b) : ∀ (as bs : List α), eqL f as bs = true → as = bs
  | [], [], _ => rfl
  | a :: as, b :: bs, h => by
    obtain ⟨h1, h2⟩ := and_inv h
    rw [hf a b h1, eqL_ok hf as bs h2]
  | [], _ :: _, h => by cases h
  | _ :: _, [], h => by cases h
def eqO (a b : Option Nat) : Bool := match a, b with
  | none, none => true
  | some x, some y => Nat.beq x y
  | _, _ => false
theorem eqO_ok (a b : Option Nat) (h : eqO a b = true) : a = b := by
  match a, b, h with
  | none, none, _ => rfl
  | some x, some y, h => rw [nbeq_t (a := x) (b := y) (by exact h)]
def eqV (a b : eV) : Bool := match a, b with
  | .inl x, .inl y => eqO x y
  | .inr (.inl x), .inr (.inl y) => eqP x y
  | .inr (.inr (.inl x)), .inr (.inr (.inl y)) => eqP x y
  | .inr (.inr (.inr x)), .inr (.inr (.inr y)) => Nat.beq x y
  | _, _ => false
theorem eqV_ok (a b : eV) (h : eqV a b = true) : a = b := by
  match a, b, h with
  | .inl x, .inl y, h => rw [eqO_ok x y (by exact h)]
  | .inr (.inl x), .inr (.inl y), h => rw [eqP_ok (a := x) (b := y) (by exact h)]
  | .inr (.inr (.inl x)), .inr (.inr (.inl y)), h => rw [eqP_ok (a := x) (b := y) (by exact h)]
  | .inr (.inr (.inr x)), .inr (.inr (.inr y)), h => rw [nbeq_t (a := x) (b := y) (by exact h)]
def eqNV (a b : Nat × eV) : Bool := Nat.beq a.1 b.1 && eqV a.2 b.2
theorem eqNV_ok (a b : Nat × eV) (h : eqNV a b = true) : a = b := by
  obtain ⟨h1, h2⟩ := and_inv h
  exact Prod.ext (nbeq_t h1) (eqV_ok _ _ h2)
def eqNP (a b : Nat × eP) : Bool := Nat.beq a.1 b.1 && eqP a.2 b.2
theorem eqNP_ok (a b : Nat × eP) (h : eqNP a b = true) : a = b := by
  obtain ⟨h1, h2⟩ := and_inv h
  exact Prod.ext (nbeq_t h1) (eqP_ok h2)
def eqA (a b : eA) : Bool := eqP a.1 b.1 && eqL eqNP a.2 b.2
theorem eqA_ok {a b : eA} (h : eqA a b = true) : a = b := by
  obtain ⟨h1, h2⟩ := and_inv h
  exact Prod.ext (eqP_ok h1) (eqL_ok eqNP_ok _ _ h2)
def eqC (a b : eC) : Bool := match a, b with
  | .inl (c1, f1), .inl (c2, f2) => Nat.beq c1 c2 && eqL eqV f1 f2
  | .inr (.inl (k1, n1, q1)), .inr (.inl (k2, n2, q2)) => Nat.beq k1 k2 && (Nat.beq n1 n2 && eqA q1 q2)
  | .inr (.inr (k1, n1, q1)), .inr (.inr (k2, n2, q2)) => Nat.beq k1 k2 && (Nat.beq n1 n2 && eqL eqO q1 q2)
  | _, _ => false
theorem eqC_ok (a b : eC) (h : eqC a b = true) : a = b := by
  match a, b, h with
  | .inl (c1, f1), .inl (c2, f2), h =>
    obtain ⟨h1, h2⟩ := and_inv (by exact h)
    rw [nbeq_t h1, eqL_ok eqV_ok _ _ h2]
  | .inr (.inl (k1, n1, q1)), .inr (.inl (k2, n2, q2)), h =>
    obtain ⟨h1, h2⟩ := and_inv (by exact h)
    obtain ⟨h2, h3⟩ := and_inv h2
    rw [nbeq_t h1, nbeq_t h2, eqA_ok h3]
  | .inr (.inr (k1, n1, q1)), .inr (.inr (k2, n2, q2)), h =>
    obtain ⟨h1, h2⟩ := and_inv (by exact h)
    obtain ⟨h2, h3⟩ := and_inv h2
    rw [nbeq_t h1, nbeq_t h2, eqL_ok eqO_ok _ _ h3]
def eqS (a b : eS) : Bool := Nat.beq a.1 b.1 && (eqL eqNV a.2.1 b.2.1 && (eqL eqV a.2.2.1 b.2.2.1 && (eqL eqC a.2.2.2.1 b.2.2.2.1 && (Nat.beq a.2.2.2.2.1 b.2.2.2.2.1 && Nat.beq a.2.2.2.2.2 b.2.2.2.2.2))))
theorem eqS_ok {a b : eS} (h : eqS a b = true) : a = b := by
  obtain ⟨h1, h2⟩ := and_inv h
  obtain ⟨h2, h3⟩ := and_inv h2
  obtain ⟨h3, h4⟩ := and_inv h3
  obtain ⟨h4, h5⟩ := and_inv h4
  obtain ⟨h5, h6⟩ := and_inv h5
  exact Prod.ext (nbeq_t h1) (Prod.ext (eqL_ok eqNV_ok _ _ h2) (Prod.ext (eqL_ok eqV_ok _ _ h3) (Prod.ext (eqL_ok eqC_ok _ _ h4) (Prod.ext (nbeq_t h5) (nbeq_t h6)))))
def eqOS (a : Option eS) (b : eS) : Bool := match a with
  | some x => eqS x b
  | none => false
theorem eqOS_ok {a : Option eS} {b : eS} (h : eqOS a b = true) : a = some b := by
  match a, h with
  | some x, h => rw [eqS_ok (a := x) (b := b) (by exact h)]
