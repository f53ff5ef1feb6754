/-! THE ENGINE, 3: numbers between bounds -/
def eAdd (a b : eP) : eP := cut32 (a.1 + b.1, a.2 + b.2)
def eSub (a b : eP) : eP := cut32 (a.1 - b.2, a.2 - b.1)
def eMul (a b : eP) : eP := match iLe 0 a.1 && iLe 0 b.1 with
  | true => cut32 (a.1 * b.1, a.2 * b.2)
  | false => f32
/-- one number, and none below 0 -/
def onePos (a : eP) : Bool := iLe 0 a.1 && iLe a.2 a.1
def eAnd (a b : eP) : eP := match onePos b with
  | true => (match onePos a with
    | true => (Int.ofNat (Nat.land a.1.toNat b.1.toNat), Int.ofNat (Nat.land a.1.toNat b.1.toNat))
    | false => (0, b.1))
  | false => (match onePos a with
    | true => (0, a.1)
    | false => f32)
def eOr (a b : eP) : eP := match onePos a && onePos b with
  | true => (Int.ofNat (Nat.lor a.1.toNat b.1.toNat), Int.ofNat (Nat.lor a.1.toNat b.1.toNat))
  | false => f32
def eShl (a b : eP) : eP := match onePos a && onePos b && iLe b.1 31 && iLe (a.1 * 2 ^ b.1.toNat) 2147483647 with
  | true => (a.1 * 2 ^ b.1.toNat, a.1 * 2 ^ b.1.toNat)
  | false => f32
def isZ (a : eP) : Bool := iLe 0 a.1 && iLe a.2 0
def eShr (a b : eP) : eP := match isZ a with
  | true => (0, 0)
  | false => match iLe 0 a.1 && onePos b && iLe b.1 31 with
    | true => (a.1 / 2 ^ b.1.toNat, a.2 / 2 ^ b.1.toNat)
    | false => f32
def eB (a : eP) : eP := match iLe (-128) a.1 && iLe a.2 127 with
  | true => a
  | false => (-128, 127)
def eLand (a _b : eP) : eP := match isZ a with
  | true => (0, 0)
  | false => f64
def eLushr (a : eP) : eP := match isZ a with
  | true => (0, 0)
  | false => f64
def eCmp (a b : eP) : eP := match iLt a.2 b.1 with
  | true => (-1, -1)
  | false => match iLt b.2 a.1 with
    | true => (1, 1)
    | false => match one a && one b with
      | true => (0, 0)
      | false => match iLe a.2 b.1 with
        | true => (-1, 0)
        | false => match iLe b.2 a.1 with
          | true => (0, 1)
          | false => (-1, 1)
def dEq (a b : eP) : Option Bool := match iLt a.2 b.1 || iLt b.2 a.1 with
  | true => some false
  | false => match one a && one b with
    | true => some true
    | false => none
def dLt (a b : eP) : Option Bool := match iLt a.2 b.1 with
  | true => some true
  | false => match iLe b.2 a.1 with
    | true => some false
    | false => none
def neg? (o : Option Bool) : Option Bool := match o with
  | some b => some (!b)
  | none => none
def dC (k : ClassFile.Cond) (a b : eP) : Option Bool := match k with
  | .eq => dEq a b
  | .ne => neg? (dEq a b)
  | .lt => dLt a b
  | .ge => neg? (dLt a b)
  | .gt => dLt b a
  | .le => neg? (dLt b a)
theorem n_add {a b : eP} {x y : Int32} (ha : bt2 a x.toInt) (hb : bt2 b y.toInt) : bt2 (eAdd a b) (x + y).toInt := by
  have h1 := ha.1; have h2 := ha.2; have h3 := hb.1; have h4 := hb.2
  exact cut32_of (Int32.toInt_add x y) ⟨by dsimp only; omega, by dsimp only; omega⟩
theorem n_sub {a b : eP} {x y : Int32} (ha : bt2 a x.toInt) (hb : bt2 b y.toInt) : bt2 (eSub a b) (x - y).toInt := by
  have h1 := ha.1; have h2 := ha.2; have h3 := hb.1; have h4 := hb.2
  exact cut32_of (Int32.toInt_sub x y) ⟨by dsimp only; omega, by dsimp only; omega⟩
theorem n_mul {a b : eP} {x y : Int32} (ha : bt2 a x.toInt) (hb : bt2 b y.toInt) : bt2 (eMul a b) (x * y).toInt := by
  unfold eMul
  cases hc : iLe 0 a.1 && iLe 0 b.1 with
  | true =>
    simp only [Bool.and_eq_true, iLe_ok] at hc
    have h1 := ha.1; have h2 := ha.2; have h3 := hb.1; have h4 := hb.2
    refine cut32_of (Int32.toInt_mul x y) ⟨?_, ?_⟩
    · exact Int.mul_le_mul h1 h3 hc.2 (by omega)
    · exact Int.mul_le_mul h2 h4 (by omega) (by omega)
  | false => exact in_f32 _
theorem onePos_ok {a : eP} {x : Int32} (h : onePos a = true) (ha : bt2 a x.toInt) : x.toInt = a.1 ∧ 0 ≤ a.1 ∧ a.1.toNat < 2147483648 ∧ x = nI a.1.toNat := by
  simp only [onePos, Bool.and_eq_true, iLe_ok] at h
  have h1 := ha.1; have h2 := ha.2
  have e : x.toInt = a.1 := by omega
  have hb := (in_f32 x).2
  have hb2 : x.toInt ≤ 2147483647 := hb
  have hl : a.1.toNat < 2147483648 := by omega
  refine ⟨e, h.1, hl, ?_⟩
  rw [← Int32.toInt_inj, nI_toInt (by omega), e]
  omega
theorem n_of32 (x : Int32) : ∃ n : Nat, n < 2 ^ 32 ∧ x = nI n := ⟨x.toBitVec.toNat, x.toBitVec.isLt, by
  apply Int32.toBitVec_inj.mp
  show x.toBitVec = BitVec.ofNat 32 x.toBitVec.toNat
  simp⟩
theorem nI_land (a b : Nat) : nI a &&& nI b = nI (Nat.land a b) := by
  apply Int32.toBitVec_inj.mp
  show BitVec.ofNat 32 a &&& BitVec.ofNat 32 b = BitVec.ofNat 32 (a &&& b)
  exact (BitVec.ofNat_and).symm
theorem nI_lor (a b : Nat) : nI a ||| nI b = nI (Nat.lor a b) := by
  apply Int32.toBitVec_inj.mp
  show BitVec.ofNat 32 a ||| BitVec.ofNat 32 b = BitVec.ofNat 32 (a ||| b)
  exact (BitVec.ofNat_or).symm
theorem n_and {a b : eP} {x y : Int32} (ha : bt2 a x.toInt) (hb : bt2 b y.toInt) : bt2 (eAnd a b) (x &&& y).toInt := by
  unfold eAnd
  cases h2 : onePos b with
  | true =>
    obtain ⟨ey, py, ly, fy⟩ := onePos_ok h2 hb
    cases h1 : onePos a with
    | true =>
      obtain ⟨ex, px, lx, fx⟩ := onePos_ok h1 ha
      have hle : Nat.land a.1.toNat b.1.toNat ≤ b.1.toNat := Nat.and_le_right
      rw [fx, fy, nI_land, nI_toInt (by omega)]
      exact ⟨Int.le_refl _, Int.le_refl _⟩
    | false =>
      obtain ⟨n, hn, fx⟩ := n_of32 x
      have hle : Nat.land n b.1.toNat ≤ b.1.toNat := Nat.and_le_right
      rw [fx, fy, nI_land, nI_toInt (by omega)]
      constructor
      · dsimp only; omega
      · dsimp only; omega
  | false =>
    cases h1 : onePos a with
    | true =>
      obtain ⟨ex, px, lx, fx⟩ := onePos_ok h1 ha
      obtain ⟨n, hn, fy⟩ := n_of32 y
      have hle : Nat.land a.1.toNat n ≤ a.1.toNat := Nat.and_le_left
      rw [fx, fy, nI_land, nI_toInt (by omega)]
      constructor
      · dsimp only; omega
      · dsimp only; omega
    | false => exact in_f32 _
theorem n_or {a b : eP} {x y : Int32} (ha : bt2 a x.toInt) (hb : bt2 b y.toInt) : bt2 (eOr a b) (x ||| y).toInt := by
  unfold eOr
  cases h : onePos a && onePos b with
  | true =>
    simp only [Bool.and_eq_true] at h
    obtain ⟨ex, px, lx, fx⟩ := onePos_ok h.1 ha
    obtain ⟨ey, py, ly, fy⟩ := onePos_ok h.2 hb
    have hl : Nat.lor a.1.toNat b.1.toNat < 2 ^ 31 := Nat.or_lt_two_pow (by omega) (by omega)
    rw [fx, fy, nI_lor, nI_toInt hl]
    exact ⟨Int.le_refl _, Int.le_refl _⟩
  | false => exact in_f32 _
theorem n_amt : ∀ n, n < 32 → ((nI n &&& 31).toBitVec.smod 32).toNat = n := by decide +kernel
theorem n_shl {a b : eP} {x y : Int32} (ha : bt2 a x.toInt) (hb : bt2 b y.toInt) : bt2 (eShl a b) (x <<< (y &&& 31)).toInt := by
  unfold eShl
  cases h : onePos a && onePos b && iLe b.1 31 && iLe (a.1 * 2 ^ b.1.toNat) 2147483647 with
  | true =>
    simp only [Bool.and_eq_true, iLe_ok] at h
    obtain ⟨⟨⟨h1, h2⟩, h3⟩, h4⟩ := h
    obtain ⟨ex, px, lx, fx⟩ := onePos_ok h1 ha
    obtain ⟨ey, py, ly, fy⟩ := onePos_ok h2 hb
    have e1 : a.1 = ((a.1.toNat : Nat) : Int) := by omega
    have h5 : ((a.1.toNat * 2 ^ b.1.toNat : Nat) : Int) = a.1 * 2 ^ b.1.toNat := by
      rw [Int.natCast_mul, Int.natCast_pow, ← e1]
      rfl
    have h6 : a.1.toNat * 2 ^ b.1.toNat < 2 ^ 31 := by omega
    rw [fx, fy, pk_shlN (n := a.1.toNat) (nI b.1.toNat &&& 31) b.1.toNat (n_amt _ (by omega)) (by omega), nI_toInt h6, h5]
    exact ⟨Int.le_refl _, Int.le_refl _⟩
  | false => exact in_f32 _
theorem isZ_ok {a : eP} {n : Int} (h : isZ a = true) (ha : bt2 a n) : n = 0 := by
  simp only [isZ, Bool.and_eq_true, iLe_ok] at h
  have h1 := ha.1; have h2 := ha.2
  omega
theorem n_shr {a b : eP} {x y : Int32} (ha : bt2 a x.toInt) (hb : bt2 b y.toInt) : bt2 (eShr a b) (x >>> (y &&& 31)).toInt := by
  unfold eShr
  cases hz : isZ a with
  | true =>
    have e := isZ_ok hz ha
    have : x = 0 := Int32.toInt_inj.mp e
    subst this
    have e2 : (0 : Int32) >>> (y &&& 31) = 0 := by
      apply Int32.toBitVec_inj.mp
      show BitVec.sshiftRight' (0 : BitVec 32) ((y &&& 31).toBitVec.smod 32) = 0
      simp [BitVec.sshiftRight']
    rw [e2]
    exact (⟨by decide, by decide⟩ : bt2 (0, 0) (0 : Int32).toInt)
  | false =>
    dsimp only
    cases h : iLe 0 a.1 && onePos b && iLe b.1 31 with
    | true =>
      simp only [Bool.and_eq_true, iLe_ok] at h
      obtain ⟨⟨h1, h2⟩, h3⟩ := h
      obtain ⟨ey, py, ly, fy⟩ := onePos_ok h2 hb
      rw [fy, pk_shr x (nI b.1.toNat &&& 31) b.1.toNat (n_amt _ (by omega)), Int.shiftRight_eq_div_pow]
      have hp : (0 : Int) < ((2 ^ b.1.toNat : Nat) : Int) := by
        have := Nat.two_pow_pos b.1.toNat
        omega
      have hc : ((2 ^ b.1.toNat : Nat) : Int) = (2 : Int) ^ b.1.toNat := by
        rw [Int.natCast_pow]
        rfl
      rw [hc] at hp ⊢
      exact ⟨Int.ediv_le_ediv hp ha.1, Int.ediv_le_ediv hp ha.2⟩
    | false => exact in_f32 _
theorem n_b {a : eP} {x : Int32} (ha : bt2 a x.toInt) : bt2 (eB a) (x.toInt8.toInt32).toInt := by
  have e : (x.toInt8.toInt32).toInt = x.toInt.bmod (2 ^ 8) := by
    rw [Int8.toInt_toInt32, Int32.toInt_toInt8]
  have hb : -128 ≤ x.toInt.bmod (2 ^ 8) ∧ x.toInt.bmod (2 ^ 8) ≤ 127 := by
    rw [Int.bmod_def]
    split <;> omega
  unfold eB
  cases h : iLe (-128) a.1 && iLe a.2 127 with
  | true =>
    simp only [Bool.and_eq_true, iLe_ok] at h
    have h1 := ha.1; have h2 := ha.2
    have : x.toInt.bmod (2 ^ 8) = x.toInt := by
      rw [Int.bmod_def]
      split <;> omega
    rw [e, this]
    exact ha
  | false => rw [e]; exact hb
theorem n_land {a b : eP} {x y : Int64} (ha : bt2 a x.toInt) : bt2 (eLand a b) (x &&& y).toInt := by
  unfold eLand
  cases hz : isZ a with
  | true =>
    have e := isZ_ok hz ha
    have : x = 0 := Int64.toInt_inj.mp e
    subst this
    have e2 : (0 : Int64) &&& y = 0 := by
      apply Int64.toBitVec_inj.mp
      show (0 : BitVec 64) &&& y.toBitVec = 0
      simp
    rw [e2]
    exact ⟨by decide, by decide⟩
  | false => exact in_f64 _
theorem n_lushr {a : eP} {x : Int64} {k : UInt64} (ha : bt2 a x.toInt) : bt2 (eLushr a) ((x.toUInt64 >>> k).toInt64).toInt := by
  unfold eLushr
  cases hz : isZ a with
  | true =>
    have e := isZ_ok hz ha
    have : x = 0 := Int64.toInt_inj.mp e
    subst this
    have e2 : ((0 : Int64).toUInt64 >>> k).toInt64 = 0 := by
      have e3 : (0 : Int64).toUInt64 = 0 := rfl
      rw [e3]
      have e4 : (0 : UInt64) >>> k = 0 := by simp
      rw [e4]
      rfl
    rw [e2]
    exact ⟨by decide, by decide⟩
  | false => exact in_f64 _
theorem n_cmp {a b : eP} {x y : Int64} (ha : bt2 a x.toInt) (hb : bt2 b y.toInt) : bt2 (eCmp a b) (lg_cmp x y).toInt := by
  have h1 := ha.1; have h2 := ha.2; have h3 := hb.1; have h4 := hb.2
  have e : (lg_cmp x y).toInt = if y.toInt < x.toInt then 1 else if x.toInt = y.toInt then 0 else -1 := by
    unfold lg_cmp
    simp only [gt_iff_lt, Int64.lt_iff_toInt_lt, ← Int64.toInt_inj]
    repeat' split
    all_goals rfl
  rw [e]
  unfold eCmp
  cases c1 : iLt a.2 b.1 with
  | true => rw [iLt_ok] at c1; dsimp only; constructor <;> dsimp only <;> (repeat' split) <;> omega
  | false =>
    have d1 : ¬ a.2 < b.1 := fun z => by rw [iLt_ok.mpr z] at c1; cases c1
    dsimp only
    cases c2 : iLt b.2 a.1 with
    | true => rw [iLt_ok] at c2; dsimp only; constructor <;> dsimp only <;> (repeat' split) <;> omega
    | false =>
      have d2 : ¬ b.2 < a.1 := fun z => by rw [iLt_ok.mpr z] at c2; cases c2
      dsimp only
      cases c3 : one a && one b with
      | true =>
        simp only [one, Bool.and_eq_true, iLe_ok] at c3
        dsimp only; constructor <;> dsimp only <;> (repeat' split) <;> omega
      | false =>
        dsimp only
        cases c4 : iLe a.2 b.1 with
        | true => rw [iLe_ok] at c4; dsimp only; constructor <;> dsimp only <;> (repeat' split) <;> omega
        | false =>
          dsimp only
          cases c5 : iLe b.2 a.1 with
          | true => rw [iLe_ok] at c5; dsimp only; constructor <;> dsimp only <;> (repeat' split) <;> omega
          | false => dsimp only; constructor <;> dsimp only <;> (repeat' split) <;> omega
theorem dEq_ok {a b : eP} {x y : Int32} {r : Bool} (h : dEq a b = some r) (ha : bt2 a x.toInt) (hb : bt2 b y.toInt) : x = y ↔ r = true := by
  have h1 := ha.1; have h2 := ha.2; have h3 := hb.1; have h4 := hb.2
  rw [← Int32.toInt_inj]
  unfold dEq at h
  cases c1 : iLt a.2 b.1 || iLt b.2 a.1 with
  | true =>
    rw [c1] at h
    cases h
    simp only [Bool.or_eq_true, iLt_ok] at c1
    constructor
    · intro z; omega
    · intro z; cases z
  | false =>
    rw [c1] at h
    have d1 : ¬ (a.2 < b.1 ∨ b.2 < a.1) := fun z => by
      have : (iLt a.2 b.1 || iLt b.2 a.1) = true := by simp only [Bool.or_eq_true, iLt_ok]; exact z
      rw [this] at c1
      cases c1
    dsimp only at h
    cases c2 : one a && one b with
    | true =>
      rw [c2] at h
      cases h
      simp only [one, Bool.and_eq_true, iLe_ok] at c2
      constructor
      · intro _; rfl
      · intro _; omega
    | false => rw [c2] at h; cases h
theorem dLt_ok {a b : eP} {x y : Int32} {r : Bool} (h : dLt a b = some r) (ha : bt2 a x.toInt) (hb : bt2 b y.toInt) : x < y ↔ r = true := by
  have h1 := ha.1; have h2 := ha.2; have h3 := hb.1; have h4 := hb.2
  rw [Int32.lt_iff_toInt_lt]
  unfold dLt at h
  cases c1 : iLt a.2 b.1 with
  | true =>
    rw [c1] at h
    cases h
    rw [iLt_ok] at c1
    constructor
    · intro _; rfl
    · intro _; omega
  | false =>
    rw [c1] at h
    dsimp only at h
    cases c2 : iLe b.2 a.1 with
    | true =>
      rw [c2] at h
      cases h
      rw [iLe_ok] at c2
      constructor
      · intro z; omega
      · intro z; cases z
    | false => rw [c2] at h; cases h
theorem neg_ok {o : Option Bool} {r : Bool} (h : neg? o = some r) : o = some (!r) := by
  cases o with
  | none => cases h
  | some b => cases h; simp
theorem le_nlt {x y : Int32} : x ≤ y ↔ ¬ y < x := by
  rw [Int32.le_iff_toInt_le, Int32.lt_iff_toInt_lt]
  omega
