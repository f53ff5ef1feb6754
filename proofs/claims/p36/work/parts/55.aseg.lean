/-! THE CHECKER, 6: a place of a row against a strip -/
theorem seg_nat {s c k r z : Int} (hs : 0 ≤ s) (h1 : s ≤ c) (hk : 0 ≤ k) (hr : 0 ≤ r) (hz : z = c + k * r) : 0 ≤ z ∧ z.toNat = s.toNat + (c - s).toNat + k.toNat * r.toNat := by
  have h2 : ((k.toNat * r.toNat : Nat) : Int) = k * r := by
    rw [Int.natCast_mul, Int.toNat_of_nonneg hk, Int.toNat_of_nonneg hr]
  have h3 : 0 ≤ k * r := Int.mul_nonneg hk hr
  omega
theorem xv_bound {ρ : List Int} {B : List eP} (hB : okB ρ B) {c k : Int} {i : Nat} {b : eP} {z : Int} (hv : xv ρ (.inr (c, k, i)) z) (hb : B[i]? = some b) : ∃ r : Int, bt2 b r ∧ z = c + k * r := by
  obtain ⟨r, h1, h2⟩ := hv
  obtain ⟨r', h3, h4⟩ := hB.2 i b hb
  rw [h1] at h3
  cases h3
  exact ⟨r, h4, h2⟩
theorem segIn_ok {ρ : List Int} {B : List eP} (hB : okB ρ B) {e : aX} {z : Int} {q : sG} (hv : xv ρ e z) (h : segIn B e q = true) : inS q z.toNat := by
  obtain ⟨s, st, n, qb⟩ := q
  match e, hv, h with
  | .inl c, hv, h =>
    have hv : z = c := hv
    subst hv
    simp only [segIn, Bool.and_eq_true, iLe_ok, iLt_ok] at h
    obtain ⟨⟨⟨h1, h2⟩, h3⟩, h4⟩ := h
    have h4 := nbeq_t h4
    obtain ⟨m, hm⟩ := Nat.dvd_of_mod_eq_zero h4
    refine ⟨m, ?_, by show z.toNat = s + st * m; omega⟩
    show m < n
    have h5 : st * m < st * n := by
      have : ((st * n : Nat) : Int) = (st : Int) * (n : Int) := Int.natCast_mul _ _
      omega
    exact Nat.lt_of_mul_lt_mul_left h5
  | .inr (c, k, i), hv, h =>
    unfold segIn at h
    dsimp only at h
    cases hb : B[i]? with
    | none => rw [hb] at h; cases h
    | some b =>
      rw [hb] at h
      obtain ⟨r, hr, hz⟩ := xv_bound hB hv hb
      simp only [Bool.and_eq_true, iLe_ok, iLt_ok] at h
      obtain ⟨⟨⟨⟨⟨⟨⟨h1, h2⟩, h3⟩, h4⟩, h5⟩, h6⟩, h7⟩, h8⟩ := h
      have r1 := hr.1
      have r2 := hr.2
      obtain ⟨C, hC⟩ := Nat.dvd_of_mod_eq_zero (nbeq_t h7)
      obtain ⟨K, hK⟩ := Nat.dvd_of_mod_eq_zero (nbeq_t h8)
      obtain ⟨z1, z2⟩ := seg_nat (s := (s : Int)) (by omega) h5 h6 (by omega) hz
      have z3 : z.toNat = s + st * (C + K * r.toNat) := by
        rw [z2, hC, hK, Nat.mul_add, Nat.mul_assoc]
        omega
      refine ⟨C + K * r.toNat, ?_, z3⟩
      show C + K * r.toNat < n
      have hk2 : k * r ≤ k * b.2 := Int.mul_le_mul_of_nonneg_left r2 h6
      have h9 : st * (C + K * r.toNat) < st * n := by
        have : ((st * n : Nat) : Int) = (st : Int) * (n : Int) := Int.natCast_mul _ _
        omega
      exact Nat.lt_of_mul_lt_mul_left h9
theorem segOut_ok {ρ : List Int} {B : List eP} (hB : okB ρ B) {e : aX} {z : Int} {q : sG} (hv : xv ρ e z) (h0 : 0 ≤ z) (h : segOut B e q = true) : ¬ inS q z.toNat := by
  obtain ⟨s, st, n, qb⟩ := q
  rintro ⟨m, hm, hz⟩
  have hm : m < n := hm
  have hz : z.toNat = s + st * m := hz
  have hx := xb_ok hB hv
  have x1 := hx.1
  have x2 := hx.2
  have hmn : st * m + st ≤ st * n := by
    have := Nat.mul_le_mul_left st (show m + 1 ≤ n by omega)
    rw [Nat.mul_add] at this
    omega
  have hc : ((st * n : Nat) : Int) = (st : Int) * (n : Int) := Int.natCast_mul _ _
  unfold segOut at h
  simp only [Bool.or_eq_true, Bool.and_eq_true, iLt_ok, iLe_ok] at h
  rcases h with ⟨h | h⟩ | h
  · omega
  · obtain ⟨h1, h⟩ := h
    omega
  · match e, hv, h with
    | .inl c, hv, h =>
      have hv : z = c := hv
      subst hv
      dsimp only at h
      simp only [Bool.and_eq_true, iLe_ok] at h
      obtain ⟨⟨h1, h2⟩, h3⟩ := h
      have h3 := Nat.le_of_ble_eq_true h3
      have h4 : (z - (s : Int)).toNat = st * m := by omega
      rw [h4, Nat.mul_mod_right] at h3
      omega
    | .inr (c, k, i), hv, h =>
      dsimp only at h
      cases hb : B[i]? with
      | none => rw [hb] at h; cases h
      | some b =>
        rw [hb] at h
        obtain ⟨r, hr, hz2⟩ := xv_bound hB hv hb
        simp only [Bool.and_eq_true, iLe_ok] at h
        obtain ⟨⟨⟨⟨⟨h1, h2⟩, h3⟩, h4⟩, h5⟩, h6⟩ := h
        have r1 := hr.1
        obtain ⟨K, hK⟩ := Nat.dvd_of_mod_eq_zero (nbeq_t h6)
        obtain ⟨z1, z2⟩ := seg_nat (s := (s : Int)) (by omega) h2 h3 (by omega) hz2
        have h7 : st * m = (c - (s : Int)).toNat + st * (K * r.toNat) := by
          rw [hK, Nat.mul_assoc] at z2
          omega
        have h8 : (st * m) % st = ((c - (s : Int)).toNat + st * (K * r.toNat)) % st := by rw [h7]
        rw [Nat.mul_mod_right, Nat.add_mul_mod_self_left] at h8
        have h5 := Nat.le_of_ble_eq_true h5
        omega
/-- the bounds of what is read from a row -/
def meet (a b : eP) : eP := (match iLe a.1 b.1 with
  | true => b.1
  | false => a.1, match iLe a.2 b.2 with
  | true => a.2
  | false => b.2)
theorem meet_ok {a b : eP} {z : Int} (h1 : bt2 a z) (h2 : bt2 b z) : bt2 (meet a b) z := by
  unfold meet
  constructor
  · dsimp only
    cases iLe a.1 b.1
    · exact h1.1
    · exact h2.1
  · dsimp only
    cases iLe a.2 b.2
    · exact h2.2
    · exact h1.2
def rdI (B : List eP) (e : aX) (d : eP) : List sG → eP
  | [] => d
  | q :: gs => match segIn B e q with
    | true => meet q.2.2.2 (rdI B e d gs)
    | false => rdI B e d gs
theorem rdI_ok {ρ : List Int} {B : List eP} (hB : okB ρ B) {e : aX} {z : Int} (hv : xv ρ e z) {d : eP} {x : Int} (hd : bt2 d x) : ∀ {gs : List sG}, (∀ q ∈ gs, inS q z.toNat → bt2 q.2.2.2 x) → bt2 (rdI B e d gs) x
  | [], _ => hd
  | q :: gs, h => by
    have ih := rdI_ok hB hv hd (gs := gs) (fun q' hq' => h q' (List.mem_cons_of_mem _ hq'))
    unfold rdI
    cases hs : segIn B e q with
    | false => exact ih
    | true => exact meet_ok (h q List.mem_cons_self (segIn_ok hB hv hs)) ih
/-- may these bounds be written there -/
def wrI (B : List eP) (e : aX) (b : eP) : List sG → Bool
  | [] => true
  | q :: gs => (segOut B e q || (iLe q.2.2.2.1 b.1 && iLe b.2 q.2.2.2.2)) && wrI B e b gs
theorem wrI_ok {ρ : List Int} {B : List eP} (hB : okB ρ B) {e : aX} {z : Int} (hv : xv ρ e z) (h0 : 0 ≤ z) {b : eP} {x : Int} (hb : bt2 b x) : ∀ {gs : List sG}, wrI B e b gs = true → ∀ q ∈ gs, inS q z.toNat → bt2 q.2.2.2 x
  | [], _, q, hq, _ => by cases hq
  | q0 :: gs, h, q, hq, hi => by
    unfold wrI at h
    simp only [Bool.and_eq_true, Bool.or_eq_true, iLe_ok] at h
    rcases List.mem_cons.mp hq with e0 | hq2
    · subst e0
      rcases h.1 with h1 | h1
      · exact (segOut_ok hB hv h0 h1 hi).elim
      · have b1 := hb.1
        have b2 := hb.2
        exact ⟨by omega, by omega⟩
    · exact wrI_ok hB hv h0 hb h.2 q hq2 hi
