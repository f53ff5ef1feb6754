/-! GHOSTS, 5: what values, terms and sums come to -/
theorem gh_nil {α : Type} {P : α → Prop} : ∀ q ∈ ([] : List α), P q := fun _ h => by cases h
theorem gh_cons {α : Type} {P : α → Prop} {a : α} {l : List α} (h : P a) (t : ∀ q ∈ l, P q) : ∀ q ∈ a :: l, P q := fun q hq => by
  rcases List.mem_cons.mp hq with e | hq
  · subst e
    exact h
  · exact t q hq
theorem mk_ok {t b m e : Nat} {κ : Int} {s : Nat} {h : List cC} (hG : HG TT [] h) (hJ : J9 h) (hk : KS t b m e κ s h) (a : Int32) : ∃ (r : Option cV) (h2 : List cC), Trm 2 215 [cR 170, cI a] h r h2 ∧ HG TT [] h2 ∧ Fr PT9 kWa h h2 ∧ J9 h2 ∧ (retV [] (ghR (some 0)) r ∨ (retV [] (ghR (some 1)) r ∧ KS t b (m + 1) e (κ - 5) (s + 1) h2)) := by
  obtain ⟨op, md, dp, L, o, k1, k2⟩ := hk
  obtain ⟨r, h2, t1, t2, t3, t4, t5⟩ := mk_trm hG hJ k2 a
  refine ⟨r, h2, t1, t2, t3, t4, ?_⟩
  rcases t5 with t5 | ⟨t5, t6⟩
  · exact Or.inl t5
  · exact Or.inr ⟨t5, op, md + 1, dp, L, o, by omega, t6⟩
theorem pt_S {t b m e e2 : Nat} {κ : Int} {s s2 : Nat} {h : List cC} (hG : HG TT [] h) (hJ : J9 h) (hk : KS t b m e κ s h) (ht : t < 6) (hκ : κ ≤ 90) (hs : e2 + s2 ≤ e + s) {a v : Int32} (hx : ∀ q : Nat, q + e ≤ 60 → sOp (a + (Int8.ofInt 16).toInt32 * v) (q + e) = some (q + e2)) : ∃ h2 : List cC, Trm 1 226 [cR 170, cI a, cI v] h none h2 ∧ HG TT [] h2 ∧ Fr PT9 kWa h h2 ∧ J9 h2 ∧ KS t b m e2 (κ + 1) s2 h2 ∧ fN h2 18 = fN h 18 := by
  obtain ⟨op, md, dp, L, o, k1, q1, q2, q3, q4, q5⟩ := hk
  obtain ⟨h2, t1, t2, t3, t4, t5, t6⟩ := pt_ok hG hJ q1 q5 ht hκ hs hx
  exact ⟨h2, t1, t2, Fr.tr (W2 := kTw) rfl Fr.rf t3, t4, ⟨op, md, dp, L + 1, o, k1, t6 _ _ q1, t6 _ _ q2, t6 _ _ q3, t6 _ _ q4, t5⟩, by rw [fN_of q3, fN_of (t6 _ _ q3)]⟩
theorem sp_num (v : Int32) {a : Int32} (ha : a.toInt = 0) : ((a + (Int8.ofInt 16).toInt32 * v) &&& 15).toInt = 0 := by
  rw [i32_of ha]
  have h1 : ((Int32.ofInt 0 + (Int8.ofInt 16).toInt32 * v) &&& 15).toBitVec.toNat = 0 := by
    rw [Int32.toBitVec_and, BitVec.toNat_and, Int32.toBitVec_add, BitVec.toNat_add, Int32.toBitVec_mul, BitVec.toNat_mul]
    have e15 : (15 : Int32).toBitVec.toNat = 2 ^ 4 - 1 := rfl
    have e16 : ((Int8.ofInt 16).toInt32).toBitVec.toNat = 16 := rfl
    have e0 : (Int32.ofInt 0).toBitVec.toNat = 0 := rfl
    rw [e15, e16, e0, Nat.and_two_pow_sub_one_eq_mod]
    omega
  have h2 : ((Int32.ofInt 0 + (Int8.ofInt 16).toInt32 * v) &&& 15).toBitVec = 0#32 := BitVec.eq_of_toNat_eq (by rw [h1]; rfl)
  have h3 : ((Int32.ofInt 0 + (Int8.ofInt 16).toInt32 * v) &&& 15) = 0 := Int32.toBitVec_inj.mp h2
  rw [h3]
  rfl
theorem sO_num {a v : Int32} (ha : a.toInt = 0) {e : Nat} : ∀ q : Nat, q + e ≤ 60 → sOp (a + (Int8.ofInt 16).toInt32 * v) (q + e) = some (q + (e + 1)) := fun q hq => by
  unfold sOp
  rw [if_pos (sp_num v ha), if_pos (by omega)]
  rfl
theorem sO_wrd {a v : Int32} (ha : a.toInt = 1) (h0 : 0 ≤ v.toInt) (h8 : v.toInt ≤ 8) {e : Nat} : ∀ q : Nat, q + e ≤ 60 → sOp (a + (Int8.ofInt 16).toInt32 * v) (q + e) = some (q + (e + 1)) := fun q hq => by
  have h : v.toInt = 0 ∨ v.toInt = 1 ∨ v.toInt = 2 ∨ v.toInt = 3 ∨ v.toInt = 4 ∨ v.toInt = 5 ∨ v.toInt = 6 ∨ v.toInt = 7 ∨ v.toInt = 8 := by omega
  have k1 : ((a + (Int8.ofInt 16).toInt32 * v) &&& 15).toInt = 1 ∧ 0 ≤ ((a + (Int8.ofInt 16).toInt32 * v) >>> (4 &&& 31)).toInt ∧ ((a + (Int8.ofInt 16).toInt32 * v) >>> (4 &&& 31)).toInt ≤ 8 := by
    rw [i32_of ha]
    rcases h with h | h | h | h | h | h | h | h | h <;> rw [i32_of h] <;> decide
  unfold sOp
  rw [if_neg (by omega), if_pos k1.1, if_pos ⟨by omega, k1.2⟩]
  rfl
theorem sO_bin {a v : Int32} (h2 : 2 ≤ a.toInt) (h10 : a.toInt ≤ 10) (hv : v.toInt = 0) {e : Nat} : ∀ q : Nat, q + (e + 2) ≤ 60 → sOp (a + (Int8.ofInt 16).toInt32 * v) (q + (e + 2)) = some (q + (e + 1)) := fun q hq => by
  have h : a.toInt = 2 ∨ a.toInt = 3 ∨ a.toInt = 4 ∨ a.toInt = 5 ∨ a.toInt = 6 ∨ a.toInt = 7 ∨ a.toInt = 8 ∨ a.toInt = 9 ∨ a.toInt = 10 := by omega
  have k1 : ((a + (Int8.ofInt 16).toInt32 * v) &&& 15).toInt ≠ 0 ∧ ((a + (Int8.ofInt 16).toInt32 * v) &&& 15).toInt ≠ 1 ∧ ((a + (Int8.ofInt 16).toInt32 * v) &&& 15).toInt ≠ 11 := by
    rw [i32_of hv]
    rcases h with h | h | h | h | h | h | h | h | h <;> rw [i32_of h] <;> decide
  rw [sOp_bin k1.1 k1.2.1 k1.2.2 (by omega)]
  congr 1
/-- what a value, a term, a sum comes to: a fault, or a number more -/
def VC (d mi : Nat) : Prop := ∀ (t b m e : Nat) (κ : Int) (s : Nat), t < 6 → κ ≤ 80 → ∀ h : List cC, HG TT [] h → J9 h → KS t b m e κ s h → ∃ (r : Option cV) (h2 : List cC), Trm d mi [cR 170] h r h2 ∧ HG TT [] h2 ∧ Fr PT9 kWa h h2 ∧ J9 h2 ∧ (retV [] (ghR (some 0)) r ∨ (retV [] (ghR (some 1)) r ∧ KS t b (m + 1) (e + 1) (κ - 4) s h2))
def vJ (t b m e : Nat) (κ : Int) (s : Nat) : Nat → List cC → Prop
  | 0 => KS t b m e κ s
  | 1 => KS t b (m + 1) e (κ - 5) (s + 1)
  | 2 => KS t b (m + 1) (e + 1) (κ - 4) s
  | _ => fun _ => True
theorem vJ_fr {t b m e : Nat} {κ : Int} {s : Nat} (h h2 : List cC) (i : Nat) (hG : HG TT [] h) (hf : Fr PT9 kSg h h2) (hk : vJ t b m e κ s i h) : vJ t b m e κ s i h2 := match i, hk with
  | 0, hk => KS_kS hf hk
  | 1, hk => KS_kS hf hk
  | 2, hk => KS_kS hf hk
  | _ + 3, _ => trivial
