/-! BY HAND, 8: first -/
theorem HG_f {h : List cC} (hG : HG TT [] h) {k j ci : Nat} {ts : List fT} {b : eP} (hT : TT[k]? = some (.inl (ci, ts))) (hj : ts[j]? = some (.inl b)) : ∃ x : Int32, fI h k j = some x ∧ b.1 ≤ x.toInt ∧ x.toInt ≤ b.2 := by
  obtain ⟨vs, v, h1, h2, x, h3, h4⟩ := HG_get hG hT hj
  subst h3
  exact ⟨x, fI_at h1 h2, h4.1, h4.2⟩
/-- what the two calls of first leave alone -/
theorem INV_mid {W : aW} {h h2 : List cC} (hi : INV h) (hf : Fr [] W h h2) (h1 : ∀ k : Nat, k < 4 → inW W (35 + 13 * k) 3 = false) (h3 : inW W 78 1000 = false) (h4 : inW W 204 1000 = false) (h5 : inW W 203 1000 = false) : ∀ k : Nat, k < 4 → ∃ b : Int32, rE h2 78 k = some b ∧ rE h2 204 k = some b ∧ (b = 0 ∨ (b = 1 ∧ ∃ v : Int32, fI h2 (35 + 13 * k) 3 = some v ∧ rE h2 203 (230 * k + 3) = some v)) := fun k hk => by
  obtain ⟨b, b1, b2, b3⟩ := hi.2.2.2 k hk
  refine ⟨b, rE_keep hf h3 b1, rE_keep hf h4 b2, ?_⟩
  rcases b3 with b3 | ⟨b3, v, v1, v2⟩
  · exact Or.inl b3
  · exact Or.inr ⟨b3, v, fI_keep hf (h1 k hk) v1, rE_keep hf h5 v2⟩
theorem Fr_tr2 {PT : List (Nat × sG)} {W1 W2 W : aW} (h1 : subW W1 W = true) (h2 : subW W2 W = true) {a b c : List cC} (f1 : Fr PT W1 a b) (f2 : Fr PT W2 b c) : Fr PT W a c := Fr.tr h2 (Fr.tr h1 Fr.rf f1) f2
theorem ret_c {ρ : List Int} {c : Int} {r : Option cV} (h : retV ρ (some (.inr (.inl (.inl c)))) r) : ∃ x : Int32, r = some (cI x) ∧ x.toInt = c := by
  cases r with
  | none => exact h.elim
  | some v =>
    obtain ⟨x, h1, h2⟩ := h
    subst h1
    exact ⟨x, rfl, h2⟩
theorem ret_s {ρ : List Int} {i : Nat} {z : Int} (hz : ρ[i]? = some z) {r : Option cV} (h : retV ρ (some (.inr (.inl (.inr (0, 1, i))))) r) : ∃ x : Int32, r = some (cI x) ∧ x.toInt = z := by
  cases r with
  | none => exact h.elim
  | some v =>
    obtain ⟨x, h1, y, h2, h3⟩ := h
    subst h1
    rw [hz] at h2
    cases h2
    exact ⟨x, rfl, by omega⟩
theorem okF_fI {ρ : List Int} {F : List (Nat × Nat × aV)} {h : List cC} (hF : okF ρ F h) {k j i : Nat} (hm : (k, j, .inr (.inl (.inr (0, 1, i)))) ∈ F) {a : Int32} (hz : ρ[i]? = some a.toInt) : fI h k j = some a := by
  obtain ⟨ci, vs, x, h1, h2, h3⟩ := vF hF hm hz
  have e : x = a := Int32.toInt_inj.mp (by omega)
  subst e
  exact fI_at h1 h2
theorem okR_rE {ρ : List Int} {h : List cC} {k i n : Nat} (hq : okR1 ρ h (.inr (.inr (.inl (k, i, .inr (0, 1, n)))))) {a : Int32} (hz : ρ[n]? = some a.toInt) : rE h k i = some a := by
  obtain ⟨kd, m, f, h1, r, h2, h3⟩ := hq
  rw [hz] at h2
  cases h2
  have e : f i = a := Int32.toInt_inj.mp (by omega)
  rw [rE_at i h1, e]
theorem rE_okR {ρ : List Int} {h : List cC} {k i n : Nat} {a : Int32} (h1 : rE h k i = some a) (hz : ρ[n]? = some a.toInt) : okR1 ρ h (.inr (.inr (.inl (k, i, .inr (0, 1, n))))) := by
  obtain ⟨kd, m, f, h2, h3⟩ := rE_inv h1
  exact ⟨kd, m, f, h2, a.toInt, hz, by rw [h3]; omega⟩
