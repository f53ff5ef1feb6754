/-! CONTRACTS: what is kept besides -/
def lawK : List Nat := [80, 85, 90, 95, 100, 105]
/-- a code of a LAW: where its kind is a WORD, its value is one of the nine -/
def LV1 (x : Int32) : Prop := x &&& 31 = 1 → 0 ≤ (x >>> (5 &&& 31)).toInt ∧ (x >>> (5 &&& 31)).toInt ≤ 8
def LVr (f : Nat → Int32) : Prop := ∀ i : Nat, i < 400 → LV1 (f i)
def JL (h : List cC) : Prop := ∀ k ∈ lawK, ∀ (kd n : Nat) (f : Nat → Int32), h[k + 1]? = some (.inr (.inl (kd, n, f))) → LVr f
/-- one sign of a clause of the reference, and all of them: how many numbers lie on the stack -/
def sOp (x : Int32) (d : Nat) : Option Nat := if (x &&& 15).toInt = 0 then (if d < 64 then some (d + 1) else none) else if (x &&& 15).toInt = 1 then (if d < 64 ∧ 0 ≤ (x >>> (4 &&& 31)).toInt ∧ (x >>> (4 &&& 31)).toInt ≤ 8 then some (d + 1) else none) else if (x &&& 15).toInt = 11 then (if 1 ≤ d then some d else none) else (if 2 ≤ d then some (d - 1) else none)
def dep (f : Nat → Int32) : Nat → Nat → Nat → Option Nat
  | _, 0, d => some d
  | p, n + 1, d => match sOp (f p) d with
    | some d2 => dep f (p + 1) n d2
    | none => none
/-- every clause that is counted leaves one number -/
def WFs (h : List cC) : Prop := ∀ f g c : Nat → Int32, h[172]? = some (.inr (.inl (0, 2400, f))) → h[174]? = some (.inr (.inl (0, 216, g))) → h[175]? = some (.inr (.inl (0, 6, c))) → ∀ t j : Nat, t < 6 → j < 12 → (j : Int) < (c t).toInt → ∃ b e : Nat, (g (36 * t + 3 * j + 1)).toInt = b ∧ (g (36 * t + 3 * j + 2)).toInt = e ∧ b ≤ e ∧ e ≤ 400 ∧ dep f (400 * t + b) (e - b) 0 = some 1
def J9 (h : List cC) : Prop := JL h ∧ WFs h
theorem WFs_of {h h2 : List cC} (h1 : h2[172]? = h[172]?) (h3 : h2[174]? = h[174]?) (h4 : h2[175]? = h[175]?) (hw : WFs h) : WFs h2 := fun f g c e1 e2 e3 => hw f g c (by rw [← h1]; exact e1) (by rw [← h3]; exact e2) (by rw [← h4]; exact e3)
def P9 : aP := (TT, PT9, IR9, J9)
theorem J9_ok : pJ P9 := fun h h2 hs hj => ⟨fun k hk kd n f hf => hj.1 k hk kd n f (by
  have hm : k + 1 ∈ IR9 := by
    unfold lawK at hk
    simp only [List.mem_cons, List.not_mem_nil, or_false] at hk
    unfold IR9
    rcases hk with rfl | rfl | rfl | rfl | rfl | rfl <;> decide
  rw [← hs _ hm]
  exact hf), WFs_of (hs _ (by decide)) (hs _ (by decide)) (hs _ (by decide)) hj.2⟩
theorem cs_nil {d : Nat} : ∀ c ∈ ([] : List aN), Con P9 d c := fun _ hc => by cases hc
theorem cs_cons {d : Nat} {c : aN} {cs : List aN} (h : Con P9 d c) (t : ∀ q ∈ cs, Con P9 d q) : ∀ q ∈ c :: cs, Con P9 d q := fun q hq => by
  rcases List.mem_cons.mp hq with e | hq
  · subst e
    exact h
  · exact t q hq
