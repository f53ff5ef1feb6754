/-! THE CHECKER, 3: shifts, quotients, rests -/
def bShl (a b : eP) : eP := match onePos a && onePos b with
  | true => eShl a b
  | false => (match iLe 0 a.1 && iLe 0 b.1 && iLe b.2 31 && iLe (a.2 * 2 ^ b.2.toNat) 2147483647 with
    | true => (0, a.2 * 2 ^ b.2.toNat)
    | false => f32)
theorem bShl_ok {a b : eP} {x y : Int32} (ha : bt2 a x.toInt) (hb : bt2 b y.toInt) : bt2 (bShl a b) (x <<< (y &&& 31)).toInt := by
  unfold bShl
  cases c1 : onePos a && onePos b with
  | true => exact n_shl ha hb
  | false =>
    dsimp only
    cases c2 : iLe 0 a.1 && iLe 0 b.1 && iLe b.2 31 && iLe (a.2 * 2 ^ b.2.toNat) 2147483647 with
    | false => exact in_f32 _
    | true =>
      simp only [Bool.and_eq_true, iLe_ok] at c2
      obtain ⟨⟨⟨h1, h2⟩, h3⟩, h4⟩ := c2
      have a1 := ha.1; have a2 := ha.2; have b1 := hb.1; have b2 := hb.2
      obtain ⟨ex, px, lx, fx⟩ := onePos_ok (a := (x.toInt, x.toInt)) (x := x) (by unfold onePos; simp only [Bool.and_eq_true, iLe_ok]; omega) ⟨Int.le_refl _, Int.le_refl _⟩
      obtain ⟨ey, py, ly, fy⟩ := onePos_ok (a := (y.toInt, y.toInt)) (x := y) (by unfold onePos; simp only [Bool.and_eq_true, iLe_ok]; omega) ⟨Int.le_refl _, Int.le_refl _⟩
      dsimp only at px lx fx py ly fy
      have hm : y.toInt.toNat ≤ b.2.toNat := by omega
      have hp : 2 ^ y.toInt.toNat ≤ 2 ^ b.2.toNat := Nat.pow_le_pow_right (by decide) hm
      have hx : x.toInt.toNat ≤ a.2.toNat := by omega
      have hq : x.toInt.toNat * 2 ^ y.toInt.toNat ≤ a.2.toNat * 2 ^ b.2.toNat := Nat.mul_le_mul hx hp
      have h5 : ((a.2.toNat * 2 ^ b.2.toNat : Nat) : Int) = a.2 * 2 ^ b.2.toNat := by
        rw [Int.natCast_mul, Int.natCast_pow, show ((a.2.toNat : Nat) : Int) = a.2 by omega]
        rfl
      have h6 : x.toInt.toNat * 2 ^ y.toInt.toNat < 2 ^ 31 := by omega
      generalize hxn : x.toInt.toNat = n at *
      generalize hyn : y.toInt.toNat = k at *
      rw [fx, fy, pk_shlN (n := n) (nI k &&& 31) k (n_amt _ (by omega)) (by omega), nI_toInt h6]
      exact ⟨by show (0 : Int) ≤ _; omega, by show _ ≤ a.2 * 2 ^ b.2.toNat; omega⟩
theorem n_uamt : ∀ n, n < 32 → (((nI n).toUInt32 &&& Int32.toUInt32 31).toBitVec % 32).toNat = n := by decide +kernel
def bUsh (a b : eP) : eP := match iLe 0 a.1 && iLe 0 b.1 && iLe b.2 31 with
  | true => (match onePos b with
    | true => (0, a.2 / 2 ^ b.1.toNat)
    | false => (0, a.2))
  | false => f32
theorem bUsh_ok {a b : eP} {x y : Int32} (ha : bt2 a x.toInt) (hb : bt2 b y.toInt) : bt2 (bUsh a b) ((x.toUInt32 >>> (y.toUInt32 &&& Int32.toUInt32 31)).toInt32).toInt := by
  unfold bUsh
  cases c1 : iLe 0 a.1 && iLe 0 b.1 && iLe b.2 31 with
  | false => exact in_f32 _
  | true =>
    simp only [Bool.and_eq_true, iLe_ok] at c1
    have a1 := ha.1; have a2 := ha.2
    obtain ⟨p1, p2⟩ := pos_nat (x := x) (by omega)
    have h1 : ((x.toUInt32 >>> (y.toUInt32 &&& Int32.toUInt32 31)).toInt32).toBitVec.toNat ≤ x.toBitVec.toNat := by
      rw [pk_ushr x y _ rfl]
      exact Nat.div_le_self _ _
    have h2 := nat_pos (x := (x.toUInt32 >>> (y.toUInt32 &&& Int32.toUInt32 31)).toInt32) (by omega)
    dsimp only
    cases hc : onePos b with
    | false => exact ⟨by show (0 : Int) ≤ _; omega, by show _ ≤ a.2; omega⟩
    | true =>
      obtain ⟨ey, py, ly, fy⟩ := onePos_ok hc hb
      have h3 : (((y).toUInt32 &&& Int32.toUInt32 31).toBitVec % 32).toNat = b.1.toNat := by
        rw [fy]
        exact n_uamt _ (by
          have := hb.2
          omega)
      rw [pk_ushr x y _ h3] at h1 h2
      refine ⟨by show (0 : Int) ≤ _; rw [h2]; exact Int.natCast_nonneg _, ?_⟩
      show _ ≤ a.2 / 2 ^ b.1.toNat
      rw [h2]
      have h4 : ((x.toBitVec.toNat / 2 ^ b.1.toNat : Nat) : Int) = (x.toBitVec.toNat : Int) / ((2 ^ b.1.toNat : Nat) : Int) := Int.natCast_ediv _ _
      rw [h4, Int.natCast_pow]
      exact Int.ediv_le_ediv (by
        have := Nat.two_pow_pos b.1.toNat
        have h5 : ((2 ^ b.1.toNat : Nat) : Int) = 2 ^ b.1.toNat := Int.natCast_pow _ _
        omega) (by rw [p1]; omega)
def bDiv (a b : eP) : eP := match iLe 0 a.1 && iLe 1 b.1 with
  | true => (0, match iLe b.2 b.1 with
    | true => a.2 / b.1
    | false => a.2)
  | false => f32
theorem div_pos {x y : Int32} (hx : 0 ≤ x.toInt) (hy : 1 ≤ y.toInt) : (x / y).toInt = x.toInt / y.toInt := by
  rw [Int32.toInt_div]
  have r1 := (in_f32 x).2
  have h1 : x.toInt.tdiv y.toInt = x.toInt / y.toInt := Int.tdiv_eq_ediv_of_nonneg hx
  have h2 : 0 ≤ x.toInt / y.toInt := Int.ediv_nonneg hx (by omega)
  have h3 : x.toInt / y.toInt ≤ x.toInt := Int.ediv_le_self _ hx
  have r2 : f32.2 = 2147483647 := rfl
  rw [h1, bmod32 (by omega) (by omega)]
theorem bDiv_ok {a b : eP} {x y : Int32} (ha : bt2 a x.toInt) (hb : bt2 b y.toInt) : bt2 (bDiv a b) (x / y).toInt := by
  unfold bDiv
  have a1 := ha.1; have a2 := ha.2; have b1 := hb.1; have b2 := hb.2
  cases c1 : iLe 0 a.1 && iLe 1 b.1 with
  | false => exact in_f32 _
  | true =>
    simp only [Bool.and_eq_true, iLe_ok] at c1
    rw [div_pos (by omega) (by omega)]
    have h2 : 0 ≤ x.toInt / y.toInt := Int.ediv_nonneg (by omega) (by omega)
    have h3 : x.toInt / y.toInt ≤ x.toInt := Int.ediv_le_self _ (by omega)
    cases c2 : iLe b.2 b.1 with
    | false => exact ⟨h2, by show _ ≤ a.2; omega⟩
    | true =>
      rw [iLe_ok] at c2
      have e : y.toInt = b.1 := by omega
      rw [e]
      exact ⟨by rw [← e]; exact h2, Int.ediv_le_ediv (by omega) a2⟩
def bRem (a b : eP) : eP := match iLe 0 a.1 && iLe 1 b.1 with
  | true => (0, b.2 - 1)
  | false => f32
theorem rem_pos {x y : Int32} (hx : 0 ≤ x.toInt) (hy : 1 ≤ y.toInt) : (x - x / y * y).toInt = x.toInt % y.toInt := by
  have r1 := (in_f32 x).2
  have r2 : f32.2 = 2147483647 := rfl
  have h1 := div_pos hx hy
  have h2 : 0 ≤ x.toInt / y.toInt := Int.ediv_nonneg hx (by omega)
  have h4 : x.toInt / y.toInt * y.toInt + x.toInt % y.toInt = x.toInt := by rw [Int.mul_comm]; exact Int.mul_ediv_add_emod _ _
  have h5 : 0 ≤ x.toInt % y.toInt := Int.emod_nonneg _ (by omega)
  have h6 : 0 ≤ x.toInt / y.toInt * y.toInt := Int.mul_nonneg h2 (by omega)
  have h7 : (x / y * y).toInt = x.toInt / y.toInt * y.toInt := by rw [Int32.toInt_mul, h1, bmod32 (by omega) (by omega)]
  rw [Int32.toInt_sub, h7, bmod32 (by omega) (by omega)]
  omega
theorem bRem_ok {a b : eP} {x y : Int32} (ha : bt2 a x.toInt) (hb : bt2 b y.toInt) : bt2 (bRem a b) (x - x / y * y).toInt := by
  unfold bRem
  have a1 := ha.1; have a2 := ha.2; have b1 := hb.1; have b2 := hb.2
  cases c1 : iLe 0 a.1 && iLe 1 b.1 with
  | false => exact in_f32 _
  | true =>
    simp only [Bool.and_eq_true, iLe_ok] at c1
    rw [rem_pos (by omega) (by omega)]
    have h5 : 0 ≤ x.toInt % y.toInt := Int.emod_nonneg _ (by omega)
    have h6 : x.toInt % y.toInt < y.toInt := Int.emod_lt_of_pos _ (by omega)
    exact ⟨h5, by show _ ≤ b.2 - 1; omega⟩
