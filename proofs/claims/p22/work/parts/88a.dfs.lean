/-! THE SEARCH of finds(), apart from the machine: it never runs out where there is a way -/
section
variable {St : Type} (R : St → St → Prop) (P : Nat → (Nat → Int) → St → Prop) (G : Int → Nat → (Nat → Int) → Prop) (size : Nat) (many : Int)
def dWay (v : Nat → Int) : Prop := ∀ k : Nat, k < size → G (v k) k v
/-- what the search at the level k comes to: its end, or the level below it, and no way that goes on from here -/
def dEnd (k : Nat) (w : Nat → Int) (X : St) : Prop :=
  (∃ (X9 : St) (w9 : Nat → Int), R X X9 ∧ P size w9 X9) ∨ ((∀ v : Nat → Int, (∀ i : Nat, i < k → v i = w i) → w k < v k → ¬ dWay G size v) ∧ (0 < k → ∃ (X9 : St) (w9 : Nat → Int), R X X9 ∧ P (k - 1) w9 X9 ∧ ∀ i : Nat, i < k → w9 i = w i))
theorem dfs_in (hrf : ∀ X, R X X) (htr : ∀ X Y Z, R X Y → R Y Z → R X Z)
    (hloc : ∀ (t : Int) (k : Nat) (w v : Nat → Int), (∀ i : Nat, i < k → w i = v i) → G t k v → G t k w)
    (hlt : ∀ (t : Int) (k : Nat) (w : Nat → Int), G t k w → t < many)
    (hbg : ∀ (t : Int) (k : Nat) (w : Nat → Int), G t k w → -1 < t)
    (hf : ∀ (k : Nat) (w : Nat → Int) (X : St), k < size → P k w X → ∀ t : Int, w k < t → t < many → G t k w → (∀ u : Int, w k < u → u < t → ¬ G u k w) → ∃ (X9 : St) (w9 : Nat → Int), R X X9 ∧ P (k + 1) w9 X9 ∧ (∀ i : Nat, i < k → w9 i = w i) ∧ w9 k = t ∧ w9 (k + 1) = -1)
    (ho : ∀ (k : Nat) (w : Nat → Int) (X : St), k < size → 0 < k → P k w X → (∀ u : Int, w k < u → u < many → ¬ G u k w) → ∃ (X9 : St) (w9 : Nat → Int), R X X9 ∧ P (k - 1) w9 X9 ∧ ∀ i : Nat, i < k → w9 i = w i) :
    ∀ (d k : Nat), k + d = size → ∀ (n : Nat) (w : Nat → Int) (X : St), (many - w k).toNat ≤ n → P k w X → dEnd R P G size k w X := by
  intro d
  induction d with
  | zero =>
    intro k hk n w X _ hP
    have e : k = size := by omega
    subst e
    exact Or.inl ⟨X, w, hrf X, hP⟩
  | succ d ihd =>
    intro k hk n
    have hks : k < size := by omega
    induction n with
    | zero =>
      intro w X hn hP
      refine Or.inr ⟨fun v hv hwv hw => ?_, fun h0 => ho k w X hks h0 hP (fun u h1 h2 _ => by omega)⟩
      have := hlt _ _ _ (hw k hks)
      omega
    | succ n ihn =>
      intro w X hn hP
      by_cases hex : ∃ j : Nat, G (w k + 1 + (j : Int)) k w
      · have hex2 : ∃ j : Nat, G (w k + 1 + (j : Int)) k w ∧ ∀ i : Nat, i < j → ¬ G (w k + 1 + (i : Int)) k w := by
          obtain ⟨j, hj⟩ := hex
          induction j using Nat.strongRecOn with
          | _ j ih =>
            by_cases hi : ∃ i : Nat, i < j ∧ G (w k + 1 + (i : Int)) k w
            · obtain ⟨i, h1, h2⟩ := hi
              exact ih i h1 h2
            · exact ⟨j, hj, fun i h1 h2 => hi ⟨i, h1, h2⟩⟩
        obtain ⟨j, hj, hmin⟩ := hex2
        have hleast : ∀ u : Int, w k < u → u < w k + 1 + (j : Int) → ¬ G u k w := fun u h1 h2 => by
          have e : u = w k + 1 + (((u - w k - 1).toNat : Nat) : Int) := by omega
          rw [e]
          exact hmin _ (by omega)
        obtain ⟨X1, w1, r1, p1, a1, b1, c1⟩ := hf k w X hks hP (w k + 1 + (j : Int)) (by omega) (hlt _ _ _ hj) hj hleast
        rcases ihd (k + 1) (by omega) _ w1 X1 (Nat.le_refl _) p1 with ⟨X9, w9, r9, p9⟩ | ⟨n1, g1⟩
        · exact Or.inl ⟨X9, w9, htr _ _ _ r1 r9, p9⟩
        · obtain ⟨X2, w2, r2, p2, a2⟩ := g1 (by omega)
          have p2 : P k w2 X2 := p2
          have e2 : w2 k = w k + 1 + (j : Int) := by rw [a2 k (by omega), b1]
          have hlj := hlt _ _ _ hj
          rcases ihn w2 X2 (by rw [e2]; omega) p2 with ⟨X9, w9, r9, p9⟩ | ⟨n2, g2⟩
          · exact Or.inl ⟨X9, w9, htr _ _ _ r1 (htr _ _ _ r2 r9), p9⟩
          · refine Or.inr ⟨fun v hv hwv hw => ?_, fun h0 => ?_⟩
            · have hG : G (v k) k w := hloc _ _ _ _ (fun i hi => (hv i hi).symm) (hw k hks)
              by_cases q1 : v k < w k + 1 + (j : Int)
              · exact hleast _ hwv q1 hG
              · by_cases q2 : v k = w k + 1 + (j : Int)
                · by_cases q3 : k + 1 < size
                  · refine n1 v (fun i hi => ?_) (by rw [c1]; exact hbg _ _ _ (hw (k + 1) q3)) hw
                    by_cases q4 : i = k
                    · subst q4
                      rw [q2, b1]
                    · rw [hv i (by omega), a1 i (by omega)]
                  · have hd0 : k + 1 = size := by omega
                    refine n1 (fun i => if i = k + 1 then 0 else v i) (fun i hi => ?_) (by rw [c1]; simp) (fun i hi => ?_)
                    · show (if i = k + 1 then 0 else v i) = _
                      rw [if_neg (by omega)]
                      by_cases q4 : i = k
                      · subst q4
                        rw [q2, b1]
                      · rw [hv i (by omega), a1 i (by omega)]
                    · show G (if i = k + 1 then 0 else v i) i _
                      rw [if_neg (by omega)]
                      exact hloc _ _ _ _ (fun i2 hi2 => by show (if i2 = k + 1 then 0 else v i2) = _; rw [if_neg (by omega)]) (hw i hi)
                · exact n2 v (fun i hi => by rw [hv i hi, a2 i (by omega), a1 i hi]) (by rw [e2]; omega) hw
            · obtain ⟨X3, w3, r3, p3, a3⟩ := g2 h0
              exact ⟨X3, w3, htr _ _ _ r1 (htr _ _ _ r2 r3), p3, fun i hi => by rw [a3 i hi, a2 i (by omega), a1 i hi]⟩
      · have hno : ∀ u : Int, w k < u → ¬ G u k w := fun u h1 h2 => hex ⟨(u - w k - 1).toNat, by
          have e : w k + 1 + (((u - w k - 1).toNat : Nat) : Int) = u := by omega
          rw [e]
          exact h2⟩
        exact Or.inr ⟨fun v hv hwv hw => hno _ hwv (hloc _ _ _ _ (fun i hi => (hv i hi).symm) (hw k hks)), fun h0 => ho k w X hks h0 hP (fun u h1 _ => hno u h1)⟩
/-- from the level 0, with nothing tried, the search comes to its end if there is a way -/
theorem dfs_ok (hrf : ∀ X, R X X) (htr : ∀ X Y Z, R X Y → R Y Z → R X Z)
    (hloc : ∀ (t : Int) (k : Nat) (w v : Nat → Int), (∀ i : Nat, i < k → w i = v i) → G t k v → G t k w)
    (hlt : ∀ (t : Int) (k : Nat) (w : Nat → Int), G t k w → t < many)
    (hbg : ∀ (t : Int) (k : Nat) (w : Nat → Int), G t k w → -1 < t)
    (hf : ∀ (k : Nat) (w : Nat → Int) (X : St), k < size → P k w X → ∀ t : Int, w k < t → t < many → G t k w → (∀ u : Int, w k < u → u < t → ¬ G u k w) → ∃ (X9 : St) (w9 : Nat → Int), R X X9 ∧ P (k + 1) w9 X9 ∧ (∀ i : Nat, i < k → w9 i = w i) ∧ w9 k = t ∧ w9 (k + 1) = -1)
    (ho : ∀ (k : Nat) (w : Nat → Int) (X : St), k < size → 0 < k → P k w X → (∀ u : Int, w k < u → u < many → ¬ G u k w) → ∃ (X9 : St) (w9 : Nat → Int), R X X9 ∧ P (k - 1) w9 X9 ∧ ∀ i : Nat, i < k → w9 i = w i)
    {w : Nat → Int} {X : St} (hP : P 0 w X) (hw : w 0 = -1) (hs : 0 < size) {v : Nat → Int} (hv : dWay G size v) : ∃ (X9 : St) (w9 : Nat → Int), R X X9 ∧ P size w9 X9 := by
  rcases dfs_in R P G size many hrf htr hloc hlt hbg hf ho size 0 (by omega) _ w X (Nat.le_refl _) hP with h | ⟨h, -⟩
  · exact h
  · exact absurd hv (h v (fun i hi => by omega) (by rw [hw]; exact hbg _ _ _ (hv 0 hs)))
end
