/-! CONTRACTS (printed by wip/chk) -/
def PT9 : List (Nat × sG) := [(183, 4, 1, 1, (0, 0)), (203, 4, 230, 4, (0, 0))]
def IR9 : List Nat := [81, 86, 91, 96, 101, 106, 172]
def J9 (_ : List cC) : Prop := True
def P9 : aP := (TT, PT9, IR9, J9)
theorem J9_ok : pJ P9 := fun _ _ _ _ => trivial
theorem cs_nil {d : Nat} : ∀ c ∈ ([] : List aN), Con P9 d c := fun _ hc => by cases hc
theorem cs_cons {d : Nat} {c : aN} {cs : List aN} (h : Con P9 d c) (t : ∀ q ∈ cs, Con P9 d q) : ∀ q ∈ c :: cs, Con P9 d q := fun q hq => by
  rcases List.mem_cons.mp hq with e | hq
  · subst e
    exact h
  · exact t q hq
