/-! CONTRACTS: what is kept besides -/
def lawK : List Nat := [80, 85, 90, 95, 100, 105]
/-- a code of a LAW: where its kind is a WORD, its value is one of the nine -/
def LV1 (x : Int32) : Prop := x &&& 31 = 1 → 0 ≤ (x >>> (5 &&& 31)).toInt ∧ (x >>> (5 &&& 31)).toInt ≤ 8
def LVr (f : Nat → Int32) : Prop := ∀ i : Nat, LV1 (f i)
def J9 (h : List cC) : Prop := ∀ k ∈ lawK, ∀ (kd n : Nat) (f : Nat → Int32), h[k + 1]? = some (.inr (.inl (kd, n, f))) → LVr f
def P9 : aP := (TT, PT9, IR9, J9)
theorem J9_ok : pJ P9 := fun h h2 hs hj k hk kd n f hf => hj k hk kd n f (by
  have hm : k + 1 ∈ IR9 := by
    unfold lawK at hk
    simp only [List.mem_cons, List.not_mem_nil, or_false] at hk
    unfold IR9
    rcases hk with rfl | rfl | rfl | rfl | rfl | rfl <;> decide
  rw [← hs _ hm]
  exact hf)
theorem cs_nil {d : Nat} : ∀ c ∈ ([] : List aN), Con P9 d c := fun _ hc => by cases hc
theorem cs_cons {d : Nat} {c : aN} {cs : List aN} (h : Con P9 d c) (t : ∀ q ∈ cs, Con P9 d q) : ∀ q ∈ c :: cs, Con P9 d q := fun q hq => by
  rcases List.mem_cons.mp hq with e | hq
  · subst e
    exact h
  · exact t q hq
