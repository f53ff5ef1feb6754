/-! THE WAY, 14: goesBehind as a whole -/
def gBx (fw fm fn ft f : Nat → Int32) (fo mn P R : Nat) (H : Int) : Int → Nat → (Nat → Int) → Prop := gB (fun t => (fw t.toNat).toInt) (fun t => (fm t.toNat).toInt) (fun t => (fn t.toNat).toInt) (fun t => ft t.toNat ≠ 0) (fun t => hrF f (fm t.toNat) (fw t.toNat) (fn t.toNat) ≠ 0) (fun x => bOf fo x.toNat = true) (mn : Int) (P : Int) (fun x => bOf R x.toNat = true) (bN R) H
theorem gBx_nat {fw fm fn ft f : Nat → Int32} {fo mn P R : Nat} {H : Int} {T K : Nat} {w : Nat → Int} : gBx fw fm fn ft f fo mn P R H (T : Int) K w ↔ (-1 < (T : Int) ∧ (T : Int) < (mn : Int) ∧ ft T ≠ 0 ∧ bOf R (fw T).toInt.toNat = true ∧ (∀ i : Nat, i < K → (fw (w i).toNat).toInt ≠ (fw T).toInt) ∧ hrF f (fm T) (fw T) (fn T) ≠ 0 ∧ ¬ bOf fo (fm T).toInt.toNat = true ∧ (K = 0 → bOf fo (fw T).toInt.toNat = true) ∧ (∀ k1 : Nat, K = k1 + 1 → (fm (w k1).toNat).toInt = (fw T).toInt ∧ (fn (w k1).toNat).toInt < (fn T).toInt) ∧ (K + 1 = bN R → (fm T).toInt = (P : Int) ∧ (fn T).toInt = H) ∧ (K + 1 ≠ bN R → bOf R (fm T).toInt.toNat = true ∧ ∀ i : Nat, i < K → (fw (w i).toNat).toInt ≠ (fm T).toInt)) := Iff.rfl
/-- the mouths that were used, as a set -/
def FU (fw : Nat → Int32) (w : Nat → Int) (k U : Nat) : Prop := U < 1024 ∧ ∀ x : Nat, x < 10 → (bOf U x = true ↔ ∃ i : Nat, i < k ∧ (fw (w i).toNat).toInt = (x : Int))
theorem FU_of {fw : Nat → Int32} {w : Nat → Int} {k U : Nat} {u y : Int32} (hU : FU fw w k U) (hu : u.toInt = U) (h0 : 0 ≤ y.toInt) (h9 : y.toInt ≤ 9) : ofF u y = 0 ↔ ∀ i : Nat, i < k → (fw (w i).toNat).toInt ≠ y.toInt := by
  have hz := ofF_nz hu hU.1 h0 h9
  have hx := hU.2 y.toInt.toNat (by omega)
  constructor
  · intro z i hi e
    exact (hz.mpr (hx.mpr ⟨i, hi, by omega⟩)) z
  · intro z
    by_cases c : ofF u y = 0
    · exact c
    · obtain ⟨i, hi, e⟩ := hx.mp (hz.mp c)
      exact absurd (by omega) (z i hi)
theorem gb_ok {fw fm fn f ft fr wt : Nat → Int32} {fo mn T K P R U : Nat} {t k u p r : Int32} {h : List cC} (hG : HG TT [] h) (hk : TX fw fm fn f fo mn h) (r6 : h[196]? = some (.inr (.inl (2, 31, ft)))) (r8 : h[188]? = some (.inr (.inl (0, 10240, fr)))) (r9 : h[201]? = some (.inr (.inl (0, 10, wt)))) (ht : t.toInt = T) (hT : T < mn) (hkk : k.toInt = K) (hK : K < 10) (hw : ∀ i : Nat, i < K → 0 ≤ (wt i).toInt ∧ (wt i).toInt < mn) (hp : p.toInt = P) (hP : P < 10) (hr : r.toInt = R) (hR : R < 1024) (hN : bN R ≤ 9) (hu : u.toInt = U) (hU : FU fw (fun i => (wt i).toInt) K U) : ∃ b : Int32, Trm 5 184 [cR 170, cI t, cI k, cI u, cI p, cI r] h (some (cI b)) h ∧ (b ≠ 0 ↔ gBx fw fm fn ft f fo mn P R (fr (1024 * P + R)).toInt (T : Int) K (fun i => (wt i).toInt)) := by
  have hk0 := hk
  obtain ⟨r1, r2, r3, r4, r5, k6, hmn, hfo, hns⟩ := hk
  obtain ⟨fw', q1, q2⟩ := HG_row hG (k := 184) (kd := 0) (n := 31) (d := (0, 9)) rfl
  rw [r1] at q1
  cases q1
  obtain ⟨fm', q3, q4⟩ := HG_row hG (k := 185) (kd := 0) (n := 31) (d := (0, 9)) rfl
  rw [r2] at q3
  cases q3
  have w1 : (0 : Int) ≤ (fw T).toInt := (q2 T (by omega)).1
  have w2 : (fw T).toInt ≤ (9 : Int) := (q2 T (by omega)).2
  have w3 : (0 : Int) ≤ (fm T).toInt := (q4 T (by omega)).1
  have w4 : (fm T).toInt ≤ (9 : Int) := (q4 T (by omega)).2
  have efo : (Int32.ofNat fo).toInt = fo := nat_i (by omega)
  have n1 := ofF_nz hr hR w1 w2
  have n2 := ofF_nz hr hR w3 w4
  have n3 := ofF_nz efo hfo w1 w2
  have n4 := ofF_nz efo hfo w3 w4
  have n5 := FU_of hU hu w1 w2
  have n6 := FU_of hU hu w3 w4
  obtain ⟨A1, A2⟩ := gb_a (k := k) (u := u) (p := p) (r := r) hG hk0 r6 ht hT
  obtain ⟨B1, B2⟩ := gb_b (u := u) (p := p) (r := r) hG hk0 r9 ht hT hkk hK hw
  by_cases cA : gbA fw fm fn f ft fo T u r
  · by_cases cB : gbB fw fm fn wt fo T K
    · obtain ⟨b, C0, C1, C2⟩ := gb_c (fw := fw) (u := u) hG hk0 r8 ht hT hkk hK hp hP hr hR hN
      refine ⟨b, Trm_succ.mpr ⟨eM184, _, rfl, Nat.le_of_ble_eq_true rfl, (A1 cA).trans ((B1 cB).trans C1), by rcases C0 with e | e <;> (subst e; rfl)⟩, C2.trans ?_⟩
      rw [gBx_nat]
      obtain ⟨a1, a2, a3, a4, a5⟩ := cA
      obtain ⟨b1, b2⟩ := cB
      constructor
      · rintro ⟨c1, c2⟩
        refine ⟨by omega, by omega, a1, n1.mp a2, n5.mp a3, a4, fun z => n4.mpr z a5, fun z => n3.mp (b1 z), fun k1 e => ⟨by rw [(b2 k1 e).1], (b2 k1 e).2⟩, fun e => ⟨by rw [(c1 e).1, hp], by rw [(c1 e).2]⟩, fun e => ⟨n2.mp (c2 e).1, n6.mp (c2 e).2⟩⟩
      · rintro ⟨_, _, _, _, _, _, _, _, _, d1, d2⟩
        exact ⟨fun e => ⟨Int32.toInt_inj.mp (by rw [(d1 e).1, hp]), Int32.toInt_inj.mp (d1 e).2⟩, fun e => ⟨n2.mpr (d2 e).1, n6.mpr (d2 e).2⟩⟩
    · refine ⟨Int32.ofInt 0, Trm_succ.mpr ⟨eM184, _, rfl, Nat.le_of_ble_eq_true rfl, (A1 cA).trans (B2 cB), rfl⟩, fun z => absurd rfl z, fun z => ?_⟩
      rw [gBx_nat] at z
      obtain ⟨_, _, _, _, _, _, _, d1, d2, _⟩ := z
      exact absurd ⟨fun e => n3.mpr (d1 e), fun k1 e => ⟨Int32.toInt_inj.mp (d2 k1 e).1, (d2 k1 e).2⟩⟩ cB
  · refine ⟨Int32.ofInt 0, Trm_succ.mpr ⟨eM184, _, rfl, Nat.le_of_ble_eq_true rfl, A2 cA, rfl⟩, fun z => absurd rfl z, fun z => ?_⟩
    rw [gBx_nat] at z
    obtain ⟨_, _, d1, d2, d3, d4, d5, _⟩ := z
    exact absurd ⟨d1, n1.mpr d2, n5.mpr d3, d4, by
      by_cases c : ofF (Int32.ofNat fo) (fm T) = 0
      · exact c
      · exact absurd (n4.mp c) d5⟩ cA
