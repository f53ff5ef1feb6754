/-! WAYS of rows, apart from the machine -/
section
variable (who whom whn : Int → Int) (told hrs : Int → Prop) (fst : Int → Prop) (many : Int)
/-- a row S of n mouths, had by p from the hour H on, has a way -/
def HasWay (p : Int) (S : Int → Prop) (n : Nat) (H : Int) : Prop := ∃ w : Nat → Int, 0 < n ∧ (∀ k : Nat, k < n → -1 < w k ∧ w k < many ∧ told (w k) ∧ S (who (w k)) ∧ hrs (w k) ∧ ¬ fst (whom (w k))) ∧ (∀ i k : Nat, i < k → k < n → who (w i) ≠ who (w k)) ∧ fst (who (w 0)) ∧ (∀ k : Nat, k + 1 < n → whom (w k) = who (w (k + 1)) ∧ whn (w k) < whn (w (k + 1))) ∧ whom (w (n - 1)) = p ∧ whn (w (n - 1)) = H
/-- what goesBehind asks of t at the place k -/
def gB (p : Int) (S : Int → Prop) (n : Nat) (H : Int) (t : Int) (k : Nat) (w : Nat → Int) : Prop :=
  -1 < t ∧ t < many ∧ told t ∧ S (who t) ∧ (∀ i : Nat, i < k → who (w i) ≠ who t) ∧ hrs t ∧ ¬ fst (whom t) ∧ (k = 0 → fst (who t)) ∧ (∀ k1 : Nat, k = k1 + 1 → whom (w k1) = who t ∧ whn (w k1) < whn t) ∧ (k + 1 = n → whom t = p ∧ whn t = H) ∧ (k + 1 ≠ n → S (whom t) ∧ ∀ i : Nat, i < k → who (w i) ≠ whom t)
theorem gB_loc {p : Int} {S : Int → Prop} {n : Nat} {H : Int} (t : Int) (k : Nat) (w v : Nat → Int) (h : ∀ i : Nat, i < k → w i = v i) (g : gB who whom whn told hrs fst many p S n H t k v) : gB who whom whn told hrs fst many p S n H t k w := by
  obtain ⟨g1, g2, g3, g4, g5, g6, g7, g8, g9, g10, g11⟩ := g
  refine ⟨g1, g2, g3, g4, fun i hi => ?_, g6, g7, g8, fun k1 e => ?_, g10, fun e => ⟨(g11 e).1, fun i hi => ?_⟩⟩
  · rw [h i hi]; exact g5 i hi
  · rw [h k1 (by omega)]; exact g9 k1 e
  · rw [h i hi]; exact (g11 e).2 i hi
theorem HasWay_dWay {p : Int} {S : Int → Prop} {n : Nat} {H : Int} (h : HasWay who whom whn told hrs fst many p S n H) : ∃ v : Nat → Int, dWay (gB who whom whn told hrs fst many p S n H) n v := by
  obtain ⟨w, h0, h1, h2, h3, h4, h5, h6⟩ := h
  refine ⟨w, fun k hk => ?_⟩
  obtain ⟨a1, a2, a3, a4, a5, a6⟩ := h1 k hk
  refine ⟨a1, a2, a3, a4, fun i hi => h2 i k hi hk, a5, a6, fun e => by subst e; exact h3, fun k1 e => ?_, fun e => ?_, fun e => ?_⟩
  · subst e
    exact h4 k1 hk
  · have e2 : k = n - 1 := by omega
    subst e2
    exact ⟨h5, h6⟩
  · have hk1 : k + 1 < n := by omega
    rw [(h4 k hk1).1]
    exact ⟨(h1 (k + 1) hk1).2.2.2.1, fun i hi => h2 i (k + 1) (by omega) hk1⟩
theorem HasWay_one {t : Int} (h0 : -1 < t) (h1 : t < many) (h2 : told t) (h3 : hrs t) (h4 : fst (who t)) (h5 : ¬ fst (whom t)) {S : Int → Prop} (hS : S (who t)) : HasWay who whom whn told hrs fst many (whom t) S 1 (whn t) :=
  ⟨fun _ => t, by omega, fun _ _ => ⟨h0, h1, h2, hS, h3, h5⟩, fun i k h8 h9 => by omega, h4, fun k hk => by omega, rfl, rfl⟩
theorem HasWay_more {t : Int} {S S2 : Int → Prop} {n : Nat} {H : Int} (h : HasWay who whom whn told hrs fst many (who t) S n H) (hH : H < whn t) (h0 : -1 < t) (h1 : t < many) (h2 : told t) (h3 : hrs t) (h5 : ¬ fst (whom t)) (hn : ¬ S (who t)) (hS : ∀ x, S x → S2 x) (hf : S2 (who t)) : HasWay who whom whn told hrs fst many (whom t) S2 (n + 1) (whn t) := by
  obtain ⟨w, g0, g1, g2, g3, g4, g5, g6⟩ := h
  have el : ∀ k : Nat, k < n → (if k = n then t else w k) = w k := fun k hk => if_neg (by omega)
  have en : (if n = n then t else w n) = t := if_pos rfl
  refine ⟨fun k => if k = n then t else w k, by omega, fun k hk => ?_, fun i k hi hk => ?_, ?_, fun k hk => ?_, ?_, ?_⟩
  · by_cases e : k = n
    · subst e
      dsimp only
      rw [en]
      exact ⟨h0, h1, h2, hf, h3, h5⟩
    · dsimp only
      rw [el k (by omega)]
      obtain ⟨a1, a2, a3, a4, a5, a6⟩ := g1 k (by omega)
      exact ⟨a1, a2, a3, hS _ a4, a5, a6⟩
  · dsimp only
    rw [el i (by omega)]
    by_cases e : k = n
    · subst e
      rw [en]
      intro e
      exact hn (by rw [← e]; exact (g1 i (by omega)).2.2.2.1)
    · rw [el k (by omega)]
      exact g2 i k hi (by omega)
  · dsimp only
    rw [el 0 g0]
    exact g3
  · dsimp only
    rw [el k (by omega)]
    by_cases e : k + 1 = n
    · rw [if_pos e]
      have e2 : n - 1 = k := by omega
      rw [e2] at g5 g6
      exact ⟨g5, by rw [g6]; exact hH⟩
    · rw [if_neg e]
      exact g4 k (by omega)
  · show whom (if n + 1 - 1 = n then t else w (n + 1 - 1)) = _
    rw [if_pos (by omega)]
  · show whn (if n + 1 - 1 = n then t else w (n + 1 - 1)) = _
    rw [if_pos (by omega)]
end
theorem HasWay_mono {who whom whn : Int → Int} {told told2 hrs : Int → Prop} {fst : Int → Prop} {many : Int} {p : Int} {S : Int → Prop} {n : Nat} {H : Int} (hm : ∀ t, told t → told2 t) (h : HasWay who whom whn told hrs fst many p S n H) : HasWay who whom whn told2 hrs fst many p S n H := by
  obtain ⟨w, h0, h1, h2⟩ := h
  exact ⟨w, h0, fun k hk => ⟨(h1 k hk).1, (h1 k hk).2.1, hm _ (h1 k hk).2.2.1, (h1 k hk).2.2.2⟩, h2⟩
