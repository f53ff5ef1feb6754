/-! THE CHECKER, 16b: what is known of symbols is used and kept -/
def bx (g : eP → eP → eP) (B : List eP) (a b : aX) : aX ⊕ eP := .inr (g (xb B a) (xb B b))
def nz (q : eP) : Bool := iLe 1 q.1 || iLe q.2 (-1)
theorem nz_ok (q : eP) (y : Int32) (h : bt2 q y.toInt) (hq : nz q = true) : decide (¬ y = 0) = true := by
  apply decide_eq_true
  intro e
  subst e
  have h1 := h.1
  have h2 := h.2
  have h3 : (0 : Int32).toInt = 0 := rfl
  unfold nz at hq
  simp only [Bool.or_eq_true, iLe_ok] at hq
  omega
theorem nzJ_ok (q : eP) (y : Int64) (h : bt2 q y.toInt) (hq : nz q = true) : decide (¬ y = 0) = true := by
  apply decide_eq_true
  intro e
  subst e
  have h1 := h.1
  have h2 := h.2
  have h3 : (0 : Int64).toInt = 0 := rfl
  unfold nz at hq
  simp only [Bool.or_eq_true, iLe_ok] at hq
  omega
def tr1 : eP → Bool := fun _ => true
theorem tr1_ok (q : eP) (y : Int32) (_ : bt2 q y.toInt) (_ : tr1 q = true) : (fun (_ : Int32) => true) y = true := rfl
theorem tr1J_ok (q : eP) (y : Int64) (_ : bt2 q y.toInt) (_ : tr1 q = true) : (fun (_ : Int64) => true) y = true := rfl
def iEq (a b : Int) : Bool := iLe a b && iLe b a
theorem iEq_ok {a b : Int} (h : iEq a b = true) : a = b := by
  unfold iEq at h
  simp only [Bool.and_eq_true, iLe_ok] at h
  omega
def xEq (a b : aX) : Bool := match a, b with
  | .inl c, .inl d => iEq c d
  | .inr (c, k, i), .inr (d, k2, j) => iEq c d && (iEq k k2 && Nat.beq i j)
  | _, _ => false
theorem xEq_ok {a b : aX} (h : xEq a b = true) : a = b := by
  match a, b, h with
  | .inl c, .inl d, h =>
    have h : iEq c d = true := h
    rw [iEq_ok h]
  | .inr (c, k, i), .inr (d, k2, j), h =>
    have h : (iEq c d && (iEq k k2 && Nat.beq i j)) = true := h
    obtain ⟨h1, h2⟩ := and_inv h
    obtain ⟨h2, h3⟩ := and_inv h2
    rw [iEq_ok h1, iEq_ok h2, nbeq_t h3]
/-- a symbol, and what is added to it -/
def sym1 (e : aX) : Option (Int × Nat) := match e with
  | .inr (c, k, i) => (match iEq k 1 with
    | true => some (c, i)
    | false => none)
  | .inl _ => none
theorem sym1_ok {ρ : List Int} {e : aX} {z : Int} (hv : xv ρ e z) {c : Int} {i : Nat} (h : sym1 e = some (c, i)) : ∃ r : Int, ρ[i]? = some r ∧ z = c + r := by
  match e, hv, h with
  | .inr (c0, k, i0), ⟨r, h1, h2⟩, h =>
    unfold sym1 at h
    dsimp only at h
    cases hk : iEq k 1 with
    | false => rw [hk] at h; cases h
    | true =>
      rw [hk] at h
      cases h
      have := iEq_ok hk
      subst this
      exact ⟨r, h1, by omega⟩
/-- how much one symbol is above another, at least -/
def gap (i j : Nat) : List aR → Option Int
  | [] => none
  | .inl (a, b, c) :: R => (match Nat.beq a i && Nat.beq b j with
    | true => (match gap i j R with
      | some c2 => some (zMax c c2)
      | none => some c)
    | false => gap i j R)
  | _ :: R => gap i j R
theorem gap_ok {ρ : List Int} {h : List cC} {i j : Nat} {x y : Int} (hx : ρ[i]? = some x) (hy : ρ[j]? = some y) : ∀ {R : List aR} {c : Int}, (∀ q ∈ R, okR1 ρ h q) → gap i j R = some c → y + c ≤ x
  | [], c, _, hg => by cases hg
  | .inl (a, b, c0) :: R, c, hR, hg => by
    unfold gap at hg
    have ih := fun (c2 : Int) => gap_ok hx hy (R := R) (c := c2) (fun q hq => hR q (List.mem_cons_of_mem _ hq))
    split at hg
    · rename_i hb
      obtain ⟨h1, h2⟩ := and_inv hb
      have e1 := nbeq_t h1
      have e2 := nbeq_t h2
      subst e1 e2
      obtain ⟨u, v, z1, z2, z3⟩ := hR _ List.mem_cons_self
      rw [hx] at z1
      rw [hy] at z2
      cases z1
      cases z2
      split at hg
      · rename_i c2 hc2
        cases hg
        have := ih c2 hc2
        have := zMax_ok c0 c2
        omega
      · cases hg
        exact z3
    · exact ih c hg
  | .inr q :: R, c, hR, hg => gap_ok hx hy (R := R) (c := c) (fun q hq => hR q (List.mem_cons_of_mem _ hq)) (by unfold gap at hg; exact hg)
/-- a lower bound of a difference -/
def lbG (B : List eP) (R : List aR) (a b : aX) : Option Int := match a, b with
  | .inr (c, k, i), .inr (d, k2, j) => (match iEq k k2 with
    | true => (match iLe 0 k with
      | true => (match gap i j R with
        | some g => some (c - d + k * g)
        | none => none)
      | false => (match gap j i R with
        | some g => some (c - d + (-k) * g)
        | none => none))
    | false => none)
  | _, _ => none
theorem lbG_ok {ρ : List Int} {h : List cC} {B : List eP} {R : List aR} (hR : ∀ q ∈ R, okR1 ρ h q) {a b : aX} {x y g : Int} (ha : xv ρ a x) (hb : xv ρ b y) (hg : lbG B R a b = some g) : g ≤ x - y := by
  match a, b, ha, hb, hg with
  | .inr (c, k, i), .inr (d, k2, j), ⟨r, r1, r2⟩, ⟨s, s1, s2⟩, hg =>
    unfold lbG at hg
    dsimp only at hg
    split at hg
    · rename_i hk
      have hk := iEq_ok hk
      subst hk
      split at hg
      · rename_i h0
        rw [iLe_ok] at h0
        split at hg
        · rename_i g' hg'
          cases hg
          have h1 := gap_ok r1 s1 hR hg'
          have h2 : k * g' ≤ k * (r - s) := Int.mul_le_mul_of_nonneg_left (by omega) h0
          rw [Int.mul_sub] at h2
          omega
        · cases hg
      · rename_i h0
        have h0 : ¬ 0 ≤ k := fun z => by rw [iLe_ok.mpr z] at h0; cases h0
        split at hg
        · rename_i g' hg'
          cases hg
          have h1 := gap_ok s1 r1 hR hg'
          have h2 : (-k) * g' ≤ (-k) * (s - r) := Int.mul_le_mul_of_nonneg_left (by omega) (by omega)
          rw [Int.mul_sub, Int.neg_mul, Int.neg_mul, Int.neg_mul] at h2
          rw [Int.neg_mul]
          omega
        · cases hg
    · cases hg
def lbd (B : List eP) (R : List aR) (a b : aX) : Int := match xSum a (xScale (-1) b) with
  | some d => (xb B d).1
  | none => (match lbG B R a b with
    | some g => zMax g ((xb B a).1 - (xb B b).2)
    | none => (xb B a).1 - (xb B b).2)
theorem lbd_ok {ρ : List Int} {h : List cC} {B : List eP} {R : List aR} (hB : okB ρ B) (hR : ∀ q ∈ R, okR1 ρ h q) {a b : aX} {x y : Int} (ha : xv ρ a x) (hb : xv ρ b y) : lbd B R a b ≤ x - y := by
  have b0 : (xb B a).1 - (xb B b).2 ≤ x - y := by
    have h1 := (xb_ok hB ha).1
    have h2 := (xb_ok hB hb).2
    omega
  unfold lbd
  split
  · rename_i d hd
    have h1 := (xb_ok hB (xSum_ok ha (xScale_ok (k := -1) hb) hd)).1
    omega
  · split
    · rename_i g hg
      have := lbG_ok hR ha hb hg
      have := zMax_ok g ((xb B a).1 - (xb B b).2)
      omega
    · exact b0
/-- an answer put among the symbols, with what is known of it -/
def putR (B : List eP) (R : List aR) (r : aX ⊕ eP) (rel : Nat → List aR) : aX × List eP × List aR := match r with
  | .inl e => (e, B, R)
  | .inr b => (match iLe b.2 b.1 with
    | true => (.inl b.1, B, R)
    | false => (.inr (0, 1, B.length), B ++ [b], rel B.length ++ R))
theorem putR_ok {w ρ : List Int} {h : List cC} {B : List eP} {R : List aR} (hB : okB ρ B) (hR : okR w ρ h R) {r : aX ⊕ eP} {rel : Nat → List aR} {z : Int} (hr : rv ρ r z) (hl : ∀ ρ' : List Int, ρ <+: ρ' → ρ'[B.length]? = some z → ∀ q ∈ rel B.length, okR1 ρ' h q) : ∃ ρ' : List Int, ρ <+: ρ' ∧ okB ρ' (putR B R r rel).2.1 ∧ okR w ρ' h (putR B R r rel).2.2 ∧ xv ρ' (putR B R r rel).1 z := by
  match r, hr with
  | .inl e, hr => exact ⟨ρ, List.prefix_rfl, hB, hR, hr⟩
  | .inr b, hr =>
    have hr : bt2 b z := hr
    unfold putR
    dsimp only
    cases hb : iLe b.2 b.1 with
    | true =>
      rw [iLe_ok] at hb
      have h1 := hr.1
      have h2 := hr.2
      exact ⟨ρ, List.prefix_rfl, hB, hR, by show z = b.1; omega⟩
    | false =>
      have hp : ρ <+: ρ ++ [z] := ⟨[z], rfl⟩
      have hz : (ρ ++ [z])[B.length]? = some z := by rw [← hB.1, List.getElem?_append_right (Nat.le_refl _), Nat.sub_self]; rfl
      refine ⟨ρ ++ [z], hp, okB_push hB hr, ?_, new_at hB z⟩
      have hm := okR_mono hp hR
      refine ⟨hm.1, fun q hq => ?_⟩
      rcases List.mem_append.mp hq with hq | hq
      · exact hl _ hp hz q hq
      · exact hm.2 q hq
/-- a sum that is a symbol already -/
def memo (R : List aR) (x y : aX) : Option Nat := match R with
  | [] => none
  | .inr (.inl (t, a, b)) :: R => (match (xEq a x && xEq b y) || (xEq a y && xEq b x) with
    | true => some t
    | false => memo R x y)
  | _ :: R => memo R x y
theorem memo_ok {ρ : List Int} {h : List cC} {x y : aX} {a b : Int} (hx : xv ρ x a) (hy : xv ρ y b) : ∀ {R : List aR} {t : Nat}, (∀ q ∈ R, okR1 ρ h q) → memo R x y = some t → ρ[t]? = some (a + b)
  | [], t, _, hm => by cases hm
  | .inr (.inl (t0, u, v)) :: R, t, hR, hm => by
    unfold memo at hm
    split at hm
    · rename_i hc
      cases hm
      obtain ⟨c, d, z, z1, z2, z3, z4⟩ := hR _ List.mem_cons_self
      rw [Bool.or_eq_true] at hc
      rcases hc with hc | hc
      · obtain ⟨h1, h2⟩ := and_inv hc
        rw [xEq_ok h1] at z2
        rw [xEq_ok h2] at z3
        rw [z1, z4, xv_det z2 hx, xv_det z3 hy]
      · obtain ⟨h1, h2⟩ := and_inv hc
        rw [xEq_ok h1] at z2
        rw [xEq_ok h2] at z3
        rw [z1, z4, xv_det z2 hy, xv_det z3 hx, Int.add_comm]
    · exact memo_ok hx hy (R := R) (fun q hq => hR q (List.mem_cons_of_mem _ hq)) hm
  | .inl q :: R, t, hR, hm => memo_ok hx hy (R := R) (fun q hq => hR q (List.mem_cons_of_mem _ hq)) (by unfold memo at hm; exact hm)
  | .inr (.inr q) :: R, t, hR, hm => memo_ok hx hy (R := R) (fun q hq => hR q (List.mem_cons_of_mem _ hq)) (by unfold memo at hm; exact hm)
def sum2 (a b : eP) : eP := (a.1 + b.1, a.2 + b.2)
theorem sum2_ok {a b : eP} {x y : Int} (ha : bt2 a x) (hb : bt2 b y) : bt2 (sum2 a b) (x + y) := ⟨Int.add_le_add ha.1 hb.1, Int.add_le_add ha.2 hb.2⟩
/-- x + y, known already or not -/
def rAdd (B : List eP) (R : List aR) (x y : aX) (alt : aX ⊕ eP) : aX ⊕ eP := match memo R x y with
  | some t => (match w32 (xb B (.inr (0, 1, t))) with
    | true => .inl (.inr (0, 1, t))
    | false => alt)
  | none => alt
theorem rAdd_ok {ρ : List Int} {h : List cC} {B : List eP} {R : List aR} (hB : okB ρ B) (hR : ∀ q ∈ R, okR1 ρ h q) {x y : aX} {a b : Int} (hx : xv ρ x a) (hy : xv ρ y b) {alt : aX ⊕ eP} {z : Int} (hz : z = (a + b).bmod (2 ^ 32)) (ha : rv ρ alt z) : rv ρ (rAdd B R x y alt) z := by
  unfold rAdd
  split
  · rename_i t ht
    split
    · rename_i hw
      have h1 := memo_ok hx hy hR ht
      have h2 : xv ρ (.inr (0, 1, t)) (a + b) := ⟨a + b, h1, by omega⟩
      have h3 := xb_ok hB h2
      have h4 := w32_ok hw
      have h5 := h3.1
      have h6 := h3.2
      rw [hz, bmod32 (by omega) (by omega)]
      exact h2
    · exact ha
  · exact ha
def relAdd (B : List eP) (x y : aX) (t : Nat) : List aR := match w32 (sum2 (xb B x) (xb B y)) with
  | true => [.inr (.inl (t, x, y))]
  | false => []
theorem relAdd_ok {ρ ρ' : List Int} {h : List cC} {B : List eP} (hB : okB ρ B) {x y : aX} {a b z : Int} (hx : xv ρ x a) (hy : xv ρ y b) (hz : z = (a + b).bmod (2 ^ 32)) (hp : ρ <+: ρ') (ht : ρ'[B.length]? = some z) : ∀ q ∈ relAdd B x y B.length, okR1 ρ' h q := by
  intro q hq
  unfold relAdd at hq
  split at hq
  · rename_i hw
    have e := List.mem_singleton.mp hq
    subst e
    have h3 := sum2_ok (xb_ok hB hx) (xb_ok hB hy)
    have h4 := w32_ok hw
    have h5 := h3.1
    have h6 := h3.2
    exact ⟨a, b, z, ht, xv_mono hp hx, xv_mono hp hy, by rw [hz, bmod32 (by omega) (by omega)]⟩
  · cases hq
/-- two ints, with what is known -/
def qBinR (ok : eP → Bool) (g : List eP → List aR → aX → aX → aX ⊕ eP) (rel : List eP → aX → aX → Nat → List aR) (len : Nat) (a : aS) : Option (List aS) := match a with
  | (pc, ls, .inr (.inl y) :: .inr (.inl x) :: st, F, B, R) => aNx (Nat.beq len 1 && ok (xb B y)) (match putR B R (g B R x y) (rel B x y) with
    | (e, B2, R2) => (pc + 1, ls, aI e :: st, F, B2, R2))
  | _ => none
theorem qBinR_ok {T : List tT} {w : List Int} {okA : eP → Bool} {okC : Int32 → Bool} {g : List eP → List aR → aX → aX → aX ⊕ eP} {rel : List eP → aX → aX → Nat → List aR} {f : Int32 → Int32 → Int32} (hg : ∀ (ρ : List Int) (h : List cC) (B : List eP) (R : List aR) (a b : aX) (x y : Int32), okB ρ B → (∀ q ∈ R, okR1 ρ h q) → xv ρ a x.toInt → xv ρ b y.toInt → okC y = true → rv ρ (g B R a b) (f x y).toInt) (hl : ∀ (ρ ρ' : List Int) (h : List cC) (B : List eP) (a b : aX) (x y : Int32), okB ρ B → xv ρ a x.toInt → xv ρ b y.toInt → ρ <+: ρ' → ρ'[B.length]? = some (f x y).toInt → ∀ q ∈ rel B a b B.length, okR1 ρ' h q) (ho : ∀ (q : eP) (y : Int32), bt2 q y.toInt → okA q = true → okC y = true) {len : Nat} {a : aS} {as : List aS} (h : qBinR okA g rel len a = some as) : Snd T w a as (kBin okC f len) := by
  intro S hS
  obtain ⟨Spc, Sls, Sst, Sh⟩ := S
  unfold qBinR at h
  split at h
  · rename_i pc ls y x st F B R
    obtain ⟨h1, rfl⟩ := aNx_inv h
    obtain ⟨h1, h2⟩ := and_inv h1
    obtain ⟨e1, hG, ρ, hB, hR, hL, hSt, hF⟩ := hS
    dsimp only at e1 hG hB hR hL hSt hF
    obtain ⟨v1, vs1, e2, ⟨y', e3, hy⟩, hS1⟩ := okS_cons hSt
    obtain ⟨v2, vs2, e4, ⟨x', e5, hx⟩, hS2⟩ := okS_cons hS1
    subst e1 e3 e5 e4 e2
    have hy2 := ho _ y' (xb_ok hB hy) h2
    obtain ⟨ρ', p1, p2, p4, p3⟩ := putR_ok hB hR (rel := rel B x y) (hg ρ Sh B R x y x' y' hB hR.2 hx hy hy2) (fun ρ' hp ht => hl ρ ρ' Sh B x y x' y' hB hx hy hp ht)
    refine ⟨(Spc + 1, Sls, cI (f x' y') :: vs2, Sh), ?_, _, List.mem_singleton.mpr rfl, rfl, hG, ρ', p2, p4, okL_mono p1 hL, ⟨⟨_, rfl, p3⟩, okS_mono p1 hS2⟩, okF_mono p1 hF⟩
    show cNx (Nat.beq len 1 && okC y') _ = _
    exact cNx_t (by rw [h1, hy2]; rfl)
  · cases h
/-- one is at most the other, among symbols -/
def leR (x : aX) (t : Nat) : List aR := match sym1 x with
  | some (c, i) => [.inl (i, t, -c)]
  | none => []
def geR (x : aX) (t : Nat) : List aR := match sym1 x with
  | some (c, i) => [.inl (t, i, c)]
  | none => []
theorem leR_ok {ρ ρ' : List Int} {h : List cC} {x : aX} {a z : Int} {t : Nat} (hx : xv ρ x a) (hp : ρ <+: ρ') (ht : ρ'[t]? = some z) (hz : z ≤ a) : ∀ q ∈ leR x t, okR1 ρ' h q := by
  intro q hq
  unfold leR at hq
  split at hq
  · rename_i c i hs
    obtain ⟨r, r1, r2⟩ := sym1_ok hx hs
    have e := List.mem_singleton.mp hq
    subst e
    exact ⟨r, z, at_mono hp r1, ht, by omega⟩
  · cases hq
theorem geR_ok {ρ ρ' : List Int} {h : List cC} {x : aX} {a z : Int} {t : Nat} (hx : xv ρ x a) (hp : ρ <+: ρ') (ht : ρ'[t]? = some z) (hz : a ≤ z) : ∀ q ∈ geR x t, okR1 ρ' h q := by
  intro q hq
  unfold geR at hq
  split at hq
  · rename_i c i hs
    obtain ⟨r, r1, r2⟩ := sym1_ok hx hs
    have e := List.mem_singleton.mp hq
    subst e
    exact ⟨z, r, ht, at_mono hp r1, by omega⟩
  · cases hq
def relAnd (B : List eP) (x y : aX) (t : Nat) : List aR := (match iLe 0 (xb B x).1 with
  | true => leR x t
  | false => []) ++ (match iLe 0 (xb B y).1 with
  | true => leR y t
  | false => [])
theorem relAnd_ok {ρ ρ' : List Int} {h : List cC} {B : List eP} (hB : okB ρ B) {x y : aX} {a b : Int32} (hx : xv ρ x a.toInt) (hy : xv ρ y b.toInt) {t : Nat} (hp : ρ <+: ρ') (ht : ρ'[t]? = some (a &&& b).toInt) : ∀ q ∈ relAnd B x y t, okR1 ρ' h q := by
  intro q hq
  unfold relAnd at hq
  rcases List.mem_append.mp hq with hq | hq
  · split at hq
    · rename_i h0
      rw [iLe_ok] at h0
      have h1 := (xb_ok hB hx).1
      exact leR_ok hx hp ht (and_l (by omega)).2 q hq
    · cases hq
  · split at hq
    · rename_i h0
      rw [iLe_ok] at h0
      have h1 := (xb_ok hB hy).1
      exact leR_ok hy hp ht (and_r (by omega)).2 q hq
    · cases hq
theorem sn_add {T : List tT} {w : List Int} {len : Nat} {a : aS} {as : List aS} (h : qBinR tr1 (fun B R x y => rAdd B R x y (xAdd B x y)) (fun B x y t => relAdd B x y t) len a = some as) : Snd T w a as (kBin (fun _ => true) (fun x y => x + y) len) :=
  qBinR_ok (okC := fun _ => true) (fun ρ h B R a b x y hB hR ha hb _ => rAdd_ok hB hR ha hb (by rw [Int32.toInt_add]) (xAdd_ok hB ha hb)) (fun ρ ρ' h B a b x y hB ha hb hp ht => relAdd_ok hB ha hb (by rw [Int32.toInt_add]) hp ht) tr1_ok h
theorem sn_sub {T : List tT} {w : List Int} {len : Nat} {a : aS} {as : List aS} (h : qBinR tr1 (fun B R x y => rAdd B R x (xScale (-1) y) (xSub B x y)) (fun B x y t => relAdd B x (xScale (-1) y) t) len a = some as) : Snd T w a as (kBin (fun _ => true) (fun x y => x - y) len) :=
  qBinR_ok (okC := fun _ => true) (fun ρ h B R a b x y hB hR ha hb _ => rAdd_ok hB hR ha (xScale_ok (k := -1) hb) (by rw [Int32.toInt_sub, show x.toInt + -1 * y.toInt = x.toInt - y.toInt by omega]) (xSub_ok hB ha hb)) (fun ρ ρ' h B a b x y hB ha hb hp ht => relAdd_ok hB ha (xScale_ok (k := -1) hb) (by rw [Int32.toInt_sub, show x.toInt + -1 * y.toInt = x.toInt - y.toInt by omega]) hp ht) tr1_ok h
theorem sn_and {T : List tT} {w : List Int} {len : Nat} {a : aS} {as : List aS} (h : qBinR tr1 (fun B _ x y => bx bAnd B x y) relAnd len a = some as) : Snd T w a as (kBin (fun _ => true) (fun x y => x &&& y) len) :=
  qBinR_ok (okC := fun _ => true) (g := fun B _ x y => bx bAnd B x y) (rel := relAnd) (f := fun x y => x &&& y) (fun ρ h B R a b x y hB hR ha hb _ => bAnd_ok (xb_ok hB ha) (xb_ok hB hb)) (fun ρ ρ' h B a b x y hB ha hb hp ht => relAnd_ok hB ha hb hp ht) tr1_ok h
