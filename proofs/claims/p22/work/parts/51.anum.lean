/-! THE CHECKER, 2: numbers. An operation's answer is an expression, or a new number between bounds -/
def rv (ρ : List Int) (r : aX ⊕ eP) (z : Int) : Prop := match r with
  | .inl e => xv ρ e z
  | .inr b => bt2 b z
def rW (B : List eP) (e : Option aX) (alt : eP) : aX ⊕ eP := match e with
  | some e => (match w32 (xb B e) with
    | true => .inl e
    | false => .inr alt)
  | none => .inr alt
theorem rW_ok {ρ : List Int} {B : List eP} (hB : okB ρ B) {e : Option aX} {alt : eP} {n : Int} {x : Int32} (hx : x.toInt = n.bmod (2 ^ 32)) (he : ∀ q : aX, e = some q → xv ρ q n) (ha : bt2 alt x.toInt) : rv ρ (rW B e alt) x.toInt := by
  unfold rW
  cases e with
  | none => exact ha
  | some q =>
    dsimp only
    cases hw : w32 (xb B q) with
    | false => exact ha
    | true =>
      have h1 := he q rfl
      have h2 := xb_ok hB h1
      have h3 := w32_ok hw
      have h4 := h2.1
      have h5 := h2.2
      show xv ρ q x.toInt
      rw [hx, bmod32 (by omega) (by omega)]
      exact h1
def xAdd (B : List eP) (a b : aX) : aX ⊕ eP := rW B (xSum a b) (eAdd (xb B a) (xb B b))
def xSub (B : List eP) (a b : aX) : aX ⊕ eP := rW B (xSum a (xScale (-1) b)) (eSub (xb B a) (xb B b))
def xMul (B : List eP) (a b : aX) : aX ⊕ eP := rW B (match a, b with
  | .inl c, b => some (xScale c b)
  | a, .inl c => some (xScale c a)
  | _, _ => none) (eMul (xb B a) (xb B b))
theorem xAdd_ok {ρ : List Int} {B : List eP} (hB : okB ρ B) {a b : aX} {x y : Int32} (ha : xv ρ a x.toInt) (hb : xv ρ b y.toInt) : rv ρ (xAdd B a b) (x + y).toInt :=
  rW_ok hB (Int32.toInt_add x y) (fun _ hq => xSum_ok ha hb hq) (n_add (xb_ok hB ha) (xb_ok hB hb))
theorem xSub_ok {ρ : List Int} {B : List eP} (hB : okB ρ B) {a b : aX} {x y : Int32} (ha : xv ρ a x.toInt) (hb : xv ρ b y.toInt) : rv ρ (xSub B a b) (x - y).toInt :=
  rW_ok hB (Int32.toInt_sub x y) (fun _ hq => by
    have h := xSum_ok ha (xScale_ok (k := -1) hb) hq
    rw [show x.toInt - y.toInt = x.toInt + -1 * y.toInt by omega]
    exact h) (n_sub (xb_ok hB ha) (xb_ok hB hb))
theorem xMul_ok {ρ : List Int} {B : List eP} (hB : okB ρ B) {a b : aX} {x y : Int32} (ha : xv ρ a x.toInt) (hb : xv ρ b y.toInt) : rv ρ (xMul B a b) (x * y).toInt := by
  refine rW_ok hB (Int32.toInt_mul x y) (fun q hq => ?_) (n_mul (xb_ok hB ha) (xb_ok hB hb))
  match a, b, ha, hb, hq with
  | .inl c, b, ha, hb, hq =>
    cases hq
    have ha : x.toInt = c := ha
    rw [ha]
    exact xScale_ok hb
  | .inr a2, .inl c, ha, hb, hq =>
    cases hq
    have hb : y.toInt = c := hb
    rw [hb, Int.mul_comm]
    exact xScale_ok ha
  | .inr _, .inr _, ha, hb, hq => cases hq
/-- bits -/
theorem pos_nat {x : Int32} (h : 0 ≤ x.toInt) : x.toBitVec.toNat = x.toInt.toNat ∧ x.toBitVec.toNat < 2147483648 := by
  have h1 : x.toInt = x.toBitVec.toInt := rfl
  rw [h1] at h ⊢
  rw [BitVec.toInt_eq_toNat_cond] at h ⊢
  have h2 := x.toBitVec.isLt
  split at h
  · rename_i h3
    rw [if_pos h3]
    omega
  · omega
theorem nat_pos {x : Int32} (h : x.toBitVec.toNat < 2147483648) : x.toInt = (x.toBitVec.toNat : Int) := by
  have h1 : x.toInt = x.toBitVec.toInt := rfl
  rw [h1, BitVec.toInt_eq_toNat_cond, if_pos (by omega)]
def bAnd (a b : eP) : eP := match iLe 0 b.1 with
  | true => (match iLe 0 a.1 with
    | true => (0, match iLe a.2 b.2 with
      | true => a.2
      | false => b.2)
    | false => (0, b.2))
  | false => (match iLe 0 a.1 with
    | true => (0, a.2)
    | false => f32)
theorem and_r {x y : Int32} (h : 0 ≤ y.toInt) : 0 ≤ (x &&& y).toInt ∧ (x &&& y).toInt ≤ y.toInt := by
  obtain ⟨h1, h2⟩ := pos_nat h
  have h3 : (x &&& y).toBitVec.toNat = x.toBitVec.toNat &&& y.toBitVec.toNat := by
    rw [Int32.toBitVec_and, BitVec.toNat_and]
  have h4 : (x &&& y).toBitVec.toNat ≤ y.toBitVec.toNat := by rw [h3]; exact Nat.and_le_right
  have h5 := nat_pos (x := x &&& y) (by omega)
  omega
theorem and_l {x y : Int32} (h : 0 ≤ x.toInt) : 0 ≤ (x &&& y).toInt ∧ (x &&& y).toInt ≤ x.toInt := by
  rw [Int32.and_comm]
  exact and_r h
theorem bAnd_ok {a b : eP} {x y : Int32} (ha : bt2 a x.toInt) (hb : bt2 b y.toInt) : bt2 (bAnd a b) (x &&& y).toInt := by
  have a1 := ha.1; have a2 := ha.2; have b1 := hb.1; have b2 := hb.2
  unfold bAnd
  cases c1 : iLe 0 b.1 with
  | true =>
    rw [iLe_ok] at c1
    have hr := and_r (x := x) (y := y) (by omega)
    cases c2 : iLe 0 a.1 with
    | true =>
      rw [iLe_ok] at c2
      have hl := and_l (x := x) (y := y) (by omega)
      cases c3 : iLe a.2 b.2 with
      | true => exact ⟨by show (0 : Int) ≤ _; omega, by show _ ≤ a.2; omega⟩
      | false => exact ⟨by show (0 : Int) ≤ _; omega, by show _ ≤ b.2; omega⟩
    | false => exact ⟨by show (0 : Int) ≤ _; omega, by show _ ≤ b.2; omega⟩
  | false =>
    cases c2 : iLe 0 a.1 with
    | true =>
      rw [iLe_ok] at c2
      have hl := and_l (x := x) (y := y) (by omega)
      exact ⟨by show (0 : Int) ≤ _; omega, by show _ ≤ a.2; omega⟩
    | false => exact in_f32 _
/-- 2 ^ k - 1 not below a number -/
def upTo (n : Int) : Int := Int.ofNat (2 ^ (n.toNat.log2 + 1)) - 1
theorem upTo_lt (n : Nat) : n < 2 ^ (n.log2 + 1) := Nat.lt_log2_self
def bOr (a b : eP) : eP := match iLe 0 a.1 && iLe 0 b.1 with
  | true => (0, match iLe a.2 b.2 with
    | true => upTo b.2
    | false => upTo a.2)
  | false => f32
theorem orx_lt {x y : Nat} {m : Int} (hx : (x : Int) ≤ m) (hy : (y : Int) ≤ m) : x < 2 ^ (m.toNat.log2 + 1) ∧ y < 2 ^ (m.toNat.log2 + 1) := by
  have h := upTo_lt m.toNat
  constructor <;> omega
theorem pow_le {m : Int} (h : m ≤ 2147483647) (h0 : 0 ≤ m) : 2 ^ (m.toNat.log2 + 1) ≤ 2147483648 := by
  by_cases hz : m.toNat = 0
  · rw [hz]; decide
  · have h1 : m.toNat < 2 ^ 31 := by omega
    have h2 : m.toNat.log2 < 31 := (Nat.log2_lt hz).mpr h1
    exact Nat.pow_le_pow_right (by decide) (by omega : m.toNat.log2 + 1 ≤ 31)
theorem bOr_ok {a b : eP} {x y : Int32} (ha : bt2 a x.toInt) (hb : bt2 b y.toInt) (f : Int32 → Int32 → Int32) (g : Nat → Nat → Nat) (hf : (f x y).toBitVec.toNat = g x.toBitVec.toNat y.toBitVec.toNat) (hg : ∀ u v k : Nat, u < 2 ^ k → v < 2 ^ k → g u v < 2 ^ k) : bt2 (bOr a b) (f x y).toInt := by
  have a1 := ha.1; have a2 := ha.2; have b1 := hb.1; have b2 := hb.2
  have r1 := (in_f32 x).2; have r2 := (in_f32 y).2
  unfold bOr
  cases c1 : iLe 0 a.1 && iLe 0 b.1 with
  | false => exact in_f32 _
  | true =>
    obtain ⟨c2, c3⟩ := and_inv c1
    rw [iLe_ok] at c2 c3
    obtain ⟨p1, p2⟩ := pos_nat (x := x) (by omega)
    obtain ⟨p3, p4⟩ := pos_nat (x := y) (by omega)
    have key : ∀ m : Int, x.toInt ≤ m → y.toInt ≤ m → 0 ≤ (f x y).toInt ∧ (f x y).toInt ≤ upTo m := by
      intro m m1 m2
      obtain ⟨q1, q2⟩ := orx_lt (x := x.toBitVec.toNat) (y := y.toBitVec.toNat) (m := m) (by omega) (by omega)
      have q3 := hg _ _ _ q1 q2
      have q5 : g x.toBitVec.toNat y.toBitVec.toNat < 2 ^ 31 := hg _ _ _ (by omega) (by omega)
      rw [← hf] at q3 q5
      have q4 := nat_pos (x := f x y) (by omega)
      refine ⟨by omega, ?_⟩
      unfold upTo
      rw [q4]
      have : Int.ofNat (2 ^ (m.toNat.log2 + 1)) = ((2 ^ (m.toNat.log2 + 1) : Nat) : Int) := rfl
      omega
    cases c4 : iLe a.2 b.2 with
    | true =>
      rw [iLe_ok] at c4
      exact key b.2 (by omega) b2
    | false =>
      have : ¬ a.2 ≤ b.2 := fun z => by rw [iLe_ok.mpr z] at c4; cases c4
      exact key a.2 a2 (by omega)
